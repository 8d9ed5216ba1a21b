theorem dX0_init_0 : decode cX0_init 0 = .ok (.aload_n 0, 1) := by decide +kernel
theorem dX0_init_1 : decode cX0_init 1 = .ok (.invokespecial 3, 3) := by decide +kernel
theorem dX0_init_4 : decode cX0_init 4 = .ok (.aload_n 0, 1) := by decide +kernel
theorem dX0_init_5 : decode cX0_init 5 = .ok (.bipush 8, 2) := by decide +kernel
theorem dX0_init_7 : decode cX0_init 7 = .ok (.newarray .int, 2) := by decide +kernel
theorem dX0_init_9 : decode cX0_init 9 = .ok (.putfield 9, 3) := by decide +kernel
theorem dX0_init_12 : decode cX0_init 12 = .ok (.aload_n 0, 1) := by decide +kernel
theorem dX0_init_13 : decode cX0_init 13 = .ok (.iconst 4, 1) := by decide +kernel
theorem dX0_init_14 : decode cX0_init 14 = .ok (.newarray .int, 2) := by decide +kernel
theorem dX0_init_16 : decode cX0_init 16 = .ok (.putfield 15, 3) := by decide +kernel
theorem dX0_init_19 : decode cX0_init 19 = .ok (.aload_n 0, 1) := by decide +kernel
theorem dX0_init_20 : decode cX0_init 20 = .ok (.aload_n 1, 1) := by decide +kernel
theorem dX0_init_21 : decode cX0_init 21 = .ok (.putfield 18, 3) := by decide +kernel
theorem dX0_init_24 : decode cX0_init 24 = .ok (.return_, 1) := by decide +kernel
set_option maxRecDepth 20000 in
theorem ggX0_fewest_X1_keepLevels : GoodIn wsX0_fewest wsX1_keepLevels := goodIn_r _ [7, 8, 9, 10, 11, 6, 12, 13, 14, 15, 16, 76, 77, 78, 79, 80, 81, 82, 83, 84] (by decide +kernel) (by decide +kernel)
set_option maxRecDepth 20000 in
theorem gX0_fewest_X1_keepLevels : GoodIn wsX0_fewest (wsV RX0 22 RX1 yX1_keepLevels wsX1_keepLevels) := goodIn_app (goodIn_of _ (by decide +kernel)) ggX0_fewest_X1_keepLevels
set_option maxRecDepth 20000 in
theorem ggX0_fewest_X0_beginWays : GoodIn wsX0_fewest wsX0_beginWays := goodIn_r _ [21, 22, 73, 74, 75] (by decide +kernel) (by decide +kernel)
set_option maxRecDepth 20000 in
theorem gX0_fewest_X0_beginWays : GoodIn wsX0_fewest (wsV RX0 28 RX0 yX0_beginWays wsX0_beginWays) := goodIn_app (goodIn_of _ (by decide +kernel)) ggX0_fewest_X0_beginWays
set_option maxRecDepth 20000 in
theorem ggX0_fewest_X0_carryOnTrial : GoodIn wsX0_fewest wsX0_carryOnTrial := goodIn_r _ [26, 1, 2, 22, 27, 28, 29, 6, 30, 8, 31, 15, 32, 33, 34, 35, 36, 13, 37, 38, 39, 40, 41, 10, 11, 12, 42, 43, 44, 45, 9, 73, 74, 75, 76, 77, 78, 79, 80, 81, 82, 83, 84] (by decide +kernel) (by decide +kernel)
set_option maxRecDepth 20000 in
theorem gX0_fewest_X0_carryOnTrial : GoodIn wsX0_fewest (wsV RX0 31 RX0 yX0_carryOnTrial wsX0_carryOnTrial) := goodIn_app (goodIn_of _ (by decide +kernel)) ggX0_fewest_X0_carryOnTrial
set_option maxRecDepth 20000 in
theorem ggX0_fewest_X1_isOpen : GoodIn wsX0_fewest wsX1_isOpen := goodIn_r _ [49, 50, 51, 52, 53, 6, 54, 55, 56, 57, 58, 59, 31, 15, 32, 60, 38, 39, 40, 8, 61, 62, 63, 64, 9, 10, 11, 12, 13, 65, 66, 67, 68, 76, 77, 78, 79, 80, 81, 82, 83, 84] (by decide +kernel) (by decide +kernel)
set_option maxRecDepth 20000 in
theorem gX0_fewest_X1_isOpen : GoodIn wsX0_fewest (wsV RX0 35 RX1 yX1_isOpen wsX1_isOpen) := goodIn_app (goodIn_of _ (by decide +kernel)) ggX0_fewest_X1_isOpen
set_option maxRecDepth 20000 in
theorem ggX0_fewest_X0_nextWay : GoodIn wsX0_fewest wsX0_nextWay := goodIn_r _ [72, 22, 1, 31, 15, 32, 37, 38, 39, 6, 40, 8, 14, 16, 73, 74, 75, 76, 77, 78, 79, 80, 81, 82, 83, 84] (by decide +kernel) (by decide +kernel)
set_option maxRecDepth 20000 in
theorem gX0_fewest_X0_nextWay : GoodIn wsX0_fewest (wsV RX0 39 RX0 yX0_nextWay wsX0_nextWay) := goodIn_app (goodIn_of _ (by decide +kernel)) ggX0_fewest_X0_nextWay
theorem dX0_fewest_0 : decode cX0_fewest 0 = .ok (.aload_n 0, 1) := by decide +kernel
theorem dX0_fewest_1 : decode cX0_fewest 1 = .ok (.getfield 18, 3) := by decide +kernel
theorem dX0_fewest_4 : decode cX0_fewest 4 = .ok (.aload_n 0, 1) := by decide +kernel
theorem dX0_fewest_5 : decode cX0_fewest 5 = .ok (.getfield 9, 3) := by decide +kernel
theorem dX0_fewest_8 : decode cX0_fewest 8 = .ok (.iconst 0, 1) := by decide +kernel
theorem dX0_fewest_9 : decode cX0_fewest 9 = .ok (.invokevirtual 22, 3) := by decide +kernel
theorem dX0_fewest_12 : decode cX0_fewest 12 = .ok (.iconst 0, 1) := by decide +kernel
theorem dX0_fewest_13 : decode cX0_fewest 13 = .ok (.istore_n 1, 1) := by decide +kernel
theorem dX0_fewest_14 : decode cX0_fewest 14 = .ok (.iload_n 1, 1) := by decide +kernel
theorem dX0_fewest_15 : decode cX0_fewest 15 = .ok (.iconst 4, 1) := by decide +kernel
theorem dX0_fewest_16 : decode cX0_fewest 16 = .ok (.if_icmp .gt 60, 3) := by decide +kernel
theorem dX0_fewest_19 : decode cX0_fewest 19 = .ok (.iconst 1, 1) := by decide +kernel
theorem dX0_fewest_20 : decode cX0_fewest 20 = .ok (.istore_n 2, 1) := by decide +kernel
theorem dX0_fewest_21 : decode cX0_fewest 21 = .ok (.aload_n 0, 1) := by decide +kernel
theorem dX0_fewest_22 : decode cX0_fewest 22 = .ok (.invokevirtual 28, 3) := by decide +kernel
theorem dX0_fewest_25 : decode cX0_fewest 25 = .ok (.iconst 0, 1) := by decide +kernel
theorem dX0_fewest_26 : decode cX0_fewest 26 = .ok (.istore_n 3, 1) := by decide +kernel
theorem dX0_fewest_27 : decode cX0_fewest 27 = .ok (.iload_n 3, 1) := by decide +kernel
theorem dX0_fewest_28 : decode cX0_fewest 28 = .ok (.sipush 1000, 3) := by decide +kernel
theorem dX0_fewest_31 : decode cX0_fewest 31 = .ok (.if_icmp .ge 39, 3) := by decide +kernel
theorem dX0_fewest_34 : decode cX0_fewest 34 = .ok (.iload_n 2, 1) := by decide +kernel
theorem dX0_fewest_35 : decode cX0_fewest 35 = .ok (.ifCond .eq 35, 3) := by decide +kernel
theorem dX0_fewest_38 : decode cX0_fewest 38 = .ok (.aload_n 0, 1) := by decide +kernel
theorem dX0_fewest_39 : decode cX0_fewest 39 = .ok (.iload_n 1, 1) := by decide +kernel
theorem dX0_fewest_40 : decode cX0_fewest 40 = .ok (.invokevirtual 31, 3) := by decide +kernel
theorem dX0_fewest_43 : decode cX0_fewest 43 = .ok (.ifCond .eq 15, 3) := by decide +kernel
theorem dX0_fewest_46 : decode cX0_fewest 46 = .ok (.aload_n 0, 1) := by decide +kernel
theorem dX0_fewest_47 : decode cX0_fewest 47 = .ok (.getfield 18, 3) := by decide +kernel
theorem dX0_fewest_50 : decode cX0_fewest 50 = .ok (.invokevirtual 35, 3) := by decide +kernel
theorem dX0_fewest_53 : decode cX0_fewest 53 = .ok (.ifCond .eq 5, 3) := by decide +kernel
theorem dX0_fewest_56 : decode cX0_fewest 56 = .ok (.iload_n 1, 1) := by decide +kernel
theorem dX0_fewest_57 : decode cX0_fewest 57 = .ok (.ireturn, 1) := by decide +kernel
theorem dX0_fewest_58 : decode cX0_fewest 58 = .ok (.aload_n 0, 1) := by decide +kernel
theorem dX0_fewest_59 : decode cX0_fewest 59 = .ok (.iload_n 1, 1) := by decide +kernel
theorem dX0_fewest_60 : decode cX0_fewest 60 = .ok (.invokevirtual 39, 3) := by decide +kernel
theorem dX0_fewest_63 : decode cX0_fewest 63 = .ok (.istore_n 2, 1) := by decide +kernel
theorem dX0_fewest_64 : decode cX0_fewest 64 = .ok (.iinc 3 1, 3) := by decide +kernel
theorem dX0_fewest_67 : decode cX0_fewest 67 = .ok (.goto (-40), 3) := by decide +kernel
theorem dX0_fewest_70 : decode cX0_fewest 70 = .ok (.iinc 1 1, 3) := by decide +kernel
theorem dX0_fewest_73 : decode cX0_fewest 73 = .ok (.goto (-59), 3) := by decide +kernel
theorem dX0_fewest_76 : decode cX0_fewest 76 = .ok (.iconst (-1), 1) := by decide +kernel
theorem dX0_fewest_77 : decode cX0_fewest 77 = .ok (.ireturn, 1) := by decide +kernel
theorem dX0_beginWays_0 : decode cX0_beginWays 0 = .ok (.iconst 0, 1) := by decide +kernel
theorem dX0_beginWays_1 : decode cX0_beginWays 1 = .ok (.istore_n 1, 1) := by decide +kernel
theorem dX0_beginWays_2 : decode cX0_beginWays 2 = .ok (.iload_n 1, 1) := by decide +kernel
theorem dX0_beginWays_3 : decode cX0_beginWays 3 = .ok (.aload_n 0, 1) := by decide +kernel
theorem dX0_beginWays_4 : decode cX0_beginWays 4 = .ok (.getfield 15, 3) := by decide +kernel
theorem dX0_beginWays_7 : decode cX0_beginWays 7 = .ok (.arraylength, 1) := by decide +kernel
theorem dX0_beginWays_8 : decode cX0_beginWays 8 = .ok (.if_icmp .ge 16, 3) := by decide +kernel
theorem dX0_beginWays_11 : decode cX0_beginWays 11 = .ok (.aload_n 0, 1) := by decide +kernel
theorem dX0_beginWays_12 : decode cX0_beginWays 12 = .ok (.getfield 15, 3) := by decide +kernel
theorem dX0_beginWays_15 : decode cX0_beginWays 15 = .ok (.iload_n 1, 1) := by decide +kernel
theorem dX0_beginWays_16 : decode cX0_beginWays 16 = .ok (.iconst 0, 1) := by decide +kernel
theorem dX0_beginWays_17 : decode cX0_beginWays 17 = .ok (.iastore, 1) := by decide +kernel
theorem dX0_beginWays_18 : decode cX0_beginWays 18 = .ok (.iinc 1 1, 3) := by decide +kernel
theorem dX0_beginWays_21 : decode cX0_beginWays 21 = .ok (.goto (-19), 3) := by decide +kernel
theorem dX0_beginWays_24 : decode cX0_beginWays 24 = .ok (.return_, 1) := by decide +kernel
set_option maxRecDepth 20000 in
theorem ggX0_nextWay_X6_at : GoodIn wsX0_nextWay wsX6_at := goodIn_r _ [5] (by decide +kernel) (by decide +kernel)
set_option maxRecDepth 20000 in
theorem gX0_nextWay_X6_at_n42 : GoodIn wsX0_nextWay (wsX6_at) := ggX0_nextWay_X6_at
set_option maxRecDepth 20000 in
theorem ggX0_nextWay_X1_hasCistern : GoodIn wsX0_nextWay wsX1_hasCistern := goodIn_r _ [10, 11, 17, 18, 19, 20, 21, 22, 23, 24, 25] (by decide +kernel) (by decide +kernel)
set_option maxRecDepth 20000 in
theorem gX0_nextWay_X1_hasCistern : GoodIn wsX0_nextWay (wsV RX0 46 RX1 yX1_hasCistern wsX1_hasCistern) := goodIn_app (goodIn_of _ (by decide +kernel)) ggX0_nextWay_X1_hasCistern
set_option maxRecDepth 20000 in
theorem ggX0_nextWay_X6_put : GoodIn wsX0_nextWay wsX6_put := goodIn_r _ [13] (by decide +kernel) (by decide +kernel)
set_option maxRecDepth 20000 in
theorem gX0_nextWay_X6_put_n49 : GoodIn wsX0_nextWay (wsX6_put) := ggX0_nextWay_X6_put
theorem dX0_nextWay_0 : decode cX0_nextWay 0 = .ok (.iload_n 1, 1) := by decide +kernel
theorem dX0_nextWay_1 : decode cX0_nextWay 1 = .ok (.iconst 1, 1) := by decide +kernel
theorem dX0_nextWay_2 : decode cX0_nextWay 2 = .ok (.isub, 1) := by decide +kernel
theorem dX0_nextWay_3 : decode cX0_nextWay 3 = .ok (.istore_n 2, 1) := by decide +kernel
theorem dX0_nextWay_4 : decode cX0_nextWay 4 = .ok (.iload_n 2, 1) := by decide +kernel
theorem dX0_nextWay_5 : decode cX0_nextWay 5 = .ok (.ifCond .lt 58, 3) := by decide +kernel
theorem dX0_nextWay_8 : decode cX0_nextWay 8 = .ok (.aload_n 0, 1) := by decide +kernel
theorem dX0_nextWay_9 : decode cX0_nextWay 9 = .ok (.getfield 15, 3) := by decide +kernel
theorem dX0_nextWay_12 : decode cX0_nextWay 12 = .ok (.iload_n 2, 1) := by decide +kernel
theorem dX0_nextWay_13 : decode cX0_nextWay 13 = .ok (.invokestatic 42, 3) := by decide +kernel
theorem dX0_nextWay_16 : decode cX0_nextWay 16 = .ok (.iconst 1, 1) := by decide +kernel
theorem dX0_nextWay_17 : decode cX0_nextWay 17 = .ok (.iadd, 1) := by decide +kernel
theorem dX0_nextWay_18 : decode cX0_nextWay 18 = .ok (.istore_n 3, 1) := by decide +kernel
theorem dX0_nextWay_19 : decode cX0_nextWay 19 = .ok (.aload_n 0, 1) := by decide +kernel
theorem dX0_nextWay_20 : decode cX0_nextWay 20 = .ok (.getfield 18, 3) := by decide +kernel
theorem dX0_nextWay_23 : decode cX0_nextWay 23 = .ok (.iload_n 3, 1) := by decide +kernel
theorem dX0_nextWay_24 : decode cX0_nextWay 24 = .ok (.invokevirtual 46, 3) := by decide +kernel
theorem dX0_nextWay_27 : decode cX0_nextWay 27 = .ok (.ifCond .eq 30, 3) := by decide +kernel
theorem dX0_nextWay_30 : decode cX0_nextWay 30 = .ok (.iload_n 2, 1) := by decide +kernel
theorem dX0_nextWay_31 : decode cX0_nextWay 31 = .ok (.istore 4, 2) := by decide +kernel
theorem dX0_nextWay_33 : decode cX0_nextWay 33 = .ok (.iload 4, 2) := by decide +kernel
theorem dX0_nextWay_35 : decode cX0_nextWay 35 = .ok (.iload_n 1, 1) := by decide +kernel
theorem dX0_nextWay_36 : decode cX0_nextWay 36 = .ok (.if_icmp .ge 19, 3) := by decide +kernel
theorem dX0_nextWay_39 : decode cX0_nextWay 39 = .ok (.aload_n 0, 1) := by decide +kernel
theorem dX0_nextWay_40 : decode cX0_nextWay 40 = .ok (.getfield 15, 3) := by decide +kernel
theorem dX0_nextWay_43 : decode cX0_nextWay 43 = .ok (.iload 4, 2) := by decide +kernel
theorem dX0_nextWay_45 : decode cX0_nextWay 45 = .ok (.iload_n 3, 1) := by decide +kernel
theorem dX0_nextWay_46 : decode cX0_nextWay 46 = .ok (.invokestatic 49, 3) := by decide +kernel
theorem dX0_nextWay_49 : decode cX0_nextWay 49 = .ok (.iinc 4 1, 3) := by decide +kernel
theorem dX0_nextWay_52 : decode cX0_nextWay 52 = .ok (.goto (-19), 3) := by decide +kernel
theorem dX0_nextWay_55 : decode cX0_nextWay 55 = .ok (.iconst 1, 1) := by decide +kernel
theorem dX0_nextWay_56 : decode cX0_nextWay 56 = .ok (.ireturn, 1) := by decide +kernel
theorem dX0_nextWay_57 : decode cX0_nextWay 57 = .ok (.iinc 2 (-1), 3) := by decide +kernel
theorem dX0_nextWay_60 : decode cX0_nextWay 60 = .ok (.goto (-56), 3) := by decide +kernel
theorem dX0_nextWay_63 : decode cX0_nextWay 63 = .ok (.iconst 0, 1) := by decide +kernel
theorem dX0_nextWay_64 : decode cX0_nextWay 64 = .ok (.ireturn, 1) := by decide +kernel
set_option maxRecDepth 20000 in
theorem ggX0_carryOnTrial_X1_takeLevels : GoodIn wsX0_carryOnTrial wsX1_takeLevels := goodIn_r _ [8, 9, 10, 11, 12, 13, 14, 15, 7, 16, 17, 34, 35, 36, 37, 38, 39, 40, 41, 42] (by decide +kernel) (by decide +kernel)
set_option maxRecDepth 20000 in
theorem gX0_carryOnTrial_X1_takeLevels : GoodIn wsX0_carryOnTrial (wsV RX0 53 RX1 yX1_takeLevels wsX1_takeLevels) := goodIn_app (goodIn_of _ (by decide +kernel)) ggX0_carryOnTrial_X1_takeLevels
set_option maxRecDepth 20000 in
theorem ggX0_carryOnTrial_X6_at : GoodIn wsX0_carryOnTrial wsX6_at := goodIn_r _ [12] (by decide +kernel) (by decide +kernel)
set_option maxRecDepth 20000 in
theorem gX0_carryOnTrial_X6_at_n42 : GoodIn wsX0_carryOnTrial (wsX6_at) := ggX0_carryOnTrial_X6_at
set_option maxRecDepth 20000 in
theorem ggX0_carryOnTrial_X1_hasCistern : GoodIn wsX0_carryOnTrial wsX1_hasCistern := goodIn_r _ [21, 9, 34, 35, 36, 37, 38, 39, 40, 41, 42] (by decide +kernel) (by decide +kernel)
set_option maxRecDepth 20000 in
theorem gX0_carryOnTrial_X1_hasCistern : GoodIn wsX0_carryOnTrial (wsV RX0 46 RX1 yX1_hasCistern wsX1_hasCistern) := goodIn_app (goodIn_of _ (by decide +kernel)) ggX0_carryOnTrial_X1_hasCistern
set_option maxRecDepth 20000 in
theorem ggX0_carryOnTrial_X1_get : GoodIn wsX0_carryOnTrial wsX1_get := goodIn_r _ [25, 17, 34, 35, 36, 37, 38, 39, 40, 41, 42] (by decide +kernel) (by decide +kernel)
set_option maxRecDepth 20000 in
theorem gX0_carryOnTrial_X1_get : GoodIn wsX0_carryOnTrial (wsV RX0 56 RX1 yX1_get wsX1_get) := goodIn_app (goodIn_of _ (by decide +kernel)) ggX0_carryOnTrial_X1_get
set_option maxRecDepth 20000 in
theorem ggX0_carryOnTrial_X1_raise : GoodIn wsX0_carryOnTrial wsX1_raise := goodIn_r _ [29, 30, 23, 24, 7, 25, 17, 13, 14, 15, 16, 34, 35, 36, 37, 38, 39, 40, 41, 42] (by decide +kernel) (by decide +kernel)
set_option maxRecDepth 20000 in
theorem gX0_carryOnTrial_X1_raise : GoodIn wsX0_carryOnTrial (wsV RX0 60 RX1 yX1_raise wsX1_raise) := goodIn_app (goodIn_of _ (by decide +kernel)) ggX0_carryOnTrial_X1_raise
theorem dX0_carryOnTrial_0 : decode cX0_carryOnTrial 0 = .ok (.aload_n 0, 1) := by decide +kernel
theorem dX0_carryOnTrial_1 : decode cX0_carryOnTrial 1 = .ok (.getfield 18, 3) := by decide +kernel
theorem dX0_carryOnTrial_4 : decode cX0_carryOnTrial 4 = .ok (.aload_n 0, 1) := by decide +kernel
theorem dX0_carryOnTrial_5 : decode cX0_carryOnTrial 5 = .ok (.getfield 9, 3) := by decide +kernel
theorem dX0_carryOnTrial_8 : decode cX0_carryOnTrial 8 = .ok (.iconst 0, 1) := by decide +kernel
theorem dX0_carryOnTrial_9 : decode cX0_carryOnTrial 9 = .ok (.invokevirtual 53, 3) := by decide +kernel
theorem dX0_carryOnTrial_12 : decode cX0_carryOnTrial 12 = .ok (.iconst 0, 1) := by decide +kernel
theorem dX0_carryOnTrial_13 : decode cX0_carryOnTrial 13 = .ok (.istore_n 2, 1) := by decide +kernel
theorem dX0_carryOnTrial_14 : decode cX0_carryOnTrial 14 = .ok (.iload_n 2, 1) := by decide +kernel
theorem dX0_carryOnTrial_15 : decode cX0_carryOnTrial 15 = .ok (.iload_n 1, 1) := by decide +kernel
theorem dX0_carryOnTrial_16 : decode cX0_carryOnTrial 16 = .ok (.if_icmp .ge 61, 3) := by decide +kernel
theorem dX0_carryOnTrial_19 : decode cX0_carryOnTrial 19 = .ok (.aload_n 0, 1) := by decide +kernel
theorem dX0_carryOnTrial_20 : decode cX0_carryOnTrial 20 = .ok (.getfield 15, 3) := by decide +kernel
theorem dX0_carryOnTrial_23 : decode cX0_carryOnTrial 23 = .ok (.iload_n 2, 1) := by decide +kernel
theorem dX0_carryOnTrial_24 : decode cX0_carryOnTrial 24 = .ok (.invokestatic 42, 3) := by decide +kernel
theorem dX0_carryOnTrial_27 : decode cX0_carryOnTrial 27 = .ok (.istore_n 3, 1) := by decide +kernel
theorem dX0_carryOnTrial_28 : decode cX0_carryOnTrial 28 = .ok (.aload_n 0, 1) := by decide +kernel
theorem dX0_carryOnTrial_29 : decode cX0_carryOnTrial 29 = .ok (.getfield 18, 3) := by decide +kernel
theorem dX0_carryOnTrial_32 : decode cX0_carryOnTrial 32 = .ok (.iload_n 3, 1) := by decide +kernel
theorem dX0_carryOnTrial_33 : decode cX0_carryOnTrial 33 = .ok (.invokevirtual 46, 3) := by decide +kernel
theorem dX0_carryOnTrial_36 : decode cX0_carryOnTrial 36 = .ok (.ifCond .eq 24, 3) := by decide +kernel
theorem dX0_carryOnTrial_39 : decode cX0_carryOnTrial 39 = .ok (.aload_n 0, 1) := by decide +kernel
theorem dX0_carryOnTrial_40 : decode cX0_carryOnTrial 40 = .ok (.getfield 18, 3) := by decide +kernel
theorem dX0_carryOnTrial_43 : decode cX0_carryOnTrial 43 = .ok (.iload_n 3, 1) := by decide +kernel
theorem dX0_carryOnTrial_44 : decode cX0_carryOnTrial 44 = .ok (.iconst 2, 1) := by decide +kernel
theorem dX0_carryOnTrial_45 : decode cX0_carryOnTrial 45 = .ok (.invokevirtual 56, 3) := by decide +kernel
theorem dX0_carryOnTrial_48 : decode cX0_carryOnTrial 48 = .ok (.aload_n 0, 1) := by decide +kernel
theorem dX0_carryOnTrial_49 : decode cX0_carryOnTrial 49 = .ok (.getfield 18, 3) := by decide +kernel
theorem dX0_carryOnTrial_52 : decode cX0_carryOnTrial 52 = .ok (.iload_n 3, 1) := by decide +kernel
theorem dX0_carryOnTrial_53 : decode cX0_carryOnTrial 53 = .ok (.iconst 1, 1) := by decide +kernel
theorem dX0_carryOnTrial_54 : decode cX0_carryOnTrial 54 = .ok (.invokevirtual 56, 3) := by decide +kernel
theorem dX0_carryOnTrial_57 : decode cX0_carryOnTrial 57 = .ok (.if_icmp .lt 5, 3) := by decide +kernel
theorem dX0_carryOnTrial_60 : decode cX0_carryOnTrial 60 = .ok (.iconst 0, 1) := by decide +kernel
theorem dX0_carryOnTrial_61 : decode cX0_carryOnTrial 61 = .ok (.ireturn, 1) := by decide +kernel
theorem dX0_carryOnTrial_62 : decode cX0_carryOnTrial 62 = .ok (.aload_n 0, 1) := by decide +kernel
theorem dX0_carryOnTrial_63 : decode cX0_carryOnTrial 63 = .ok (.getfield 18, 3) := by decide +kernel
theorem dX0_carryOnTrial_66 : decode cX0_carryOnTrial 66 = .ok (.iload_n 3, 1) := by decide +kernel
theorem dX0_carryOnTrial_67 : decode cX0_carryOnTrial 67 = .ok (.iconst 1, 1) := by decide +kernel
theorem dX0_carryOnTrial_68 : decode cX0_carryOnTrial 68 = .ok (.invokevirtual 60, 3) := by decide +kernel
theorem dX0_carryOnTrial_71 : decode cX0_carryOnTrial 71 = .ok (.iinc 2 1, 3) := by decide +kernel
theorem dX0_carryOnTrial_74 : decode cX0_carryOnTrial 74 = .ok (.goto (-60), 3) := by decide +kernel
theorem dX0_carryOnTrial_77 : decode cX0_carryOnTrial 77 = .ok (.iconst 1, 1) := by decide +kernel
theorem dX0_carryOnTrial_78 : decode cX0_carryOnTrial 78 = .ok (.ireturn, 1) := by decide +kernel
theorem dX1_init_0 : decode cX1_init 0 = .ok (.aload_n 0, 1) := by decide +kernel
theorem dX1_init_1 : decode cX1_init 1 = .ok (.invokespecial 3, 3) := by decide +kernel
theorem dX1_init_4 : decode cX1_init 4 = .ok (.aload_n 0, 1) := by decide +kernel
theorem dX1_init_5 : decode cX1_init 5 = .ok (.bipush 88, 2) := by decide +kernel
theorem dX1_init_7 : decode cX1_init 7 = .ok (.newarray .int, 2) := by decide +kernel
theorem dX1_init_9 : decode cX1_init 9 = .ok (.putfield 9, 3) := by decide +kernel
theorem dX1_init_12 : decode cX1_init 12 = .ok (.aload_n 0, 1) := by decide +kernel
theorem dX1_init_13 : decode cX1_init 13 = .ok (.bipush 24, 2) := by decide +kernel
theorem dX1_init_15 : decode cX1_init 15 = .ok (.newarray .int, 2) := by decide +kernel
theorem dX1_init_17 : decode cX1_init 17 = .ok (.putfield 15, 3) := by decide +kernel
theorem dX1_init_20 : decode cX1_init 20 = .ok (.aload_n 0, 1) := by decide +kernel
theorem dX1_init_21 : decode cX1_init 21 = .ok (.bipush 10, 2) := by decide +kernel
theorem dX1_init_23 : decode cX1_init 23 = .ok (.newarray .int, 2) := by decide +kernel
theorem dX1_init_25 : decode cX1_init 25 = .ok (.dup, 1) := by decide +kernel
theorem dX1_init_26 : decode cX1_init 26 = .ok (.iconst 0, 1) := by decide +kernel
theorem dX1_init_27 : decode cX1_init 27 = .ok (.iconst (-1), 1) := by decide +kernel
theorem dX1_init_28 : decode cX1_init 28 = .ok (.iastore, 1) := by decide +kernel
theorem dX1_init_29 : decode cX1_init 29 = .ok (.dup, 1) := by decide +kernel
theorem dX1_init_30 : decode cX1_init 30 = .ok (.iconst 1, 1) := by decide +kernel
theorem dX1_init_31 : decode cX1_init 31 = .ok (.iconst (-1), 1) := by decide +kernel
theorem dX1_init_32 : decode cX1_init 32 = .ok (.iastore, 1) := by decide +kernel
theorem dX1_init_33 : decode cX1_init 33 = .ok (.dup, 1) := by decide +kernel
theorem dX1_init_34 : decode cX1_init 34 = .ok (.iconst 2, 1) := by decide +kernel
theorem dX1_init_35 : decode cX1_init 35 = .ok (.iconst (-1), 1) := by decide +kernel
theorem dX1_init_36 : decode cX1_init 36 = .ok (.iastore, 1) := by decide +kernel
theorem dX1_init_37 : decode cX1_init 37 = .ok (.dup, 1) := by decide +kernel
theorem dX1_init_38 : decode cX1_init 38 = .ok (.iconst 3, 1) := by decide +kernel
theorem dX1_init_39 : decode cX1_init 39 = .ok (.iconst (-1), 1) := by decide +kernel
theorem dX1_init_40 : decode cX1_init 40 = .ok (.iastore, 1) := by decide +kernel
theorem dX1_init_41 : decode cX1_init 41 = .ok (.dup, 1) := by decide +kernel
theorem dX1_init_42 : decode cX1_init 42 = .ok (.iconst 4, 1) := by decide +kernel
theorem dX1_init_43 : decode cX1_init 43 = .ok (.iconst (-1), 1) := by decide +kernel
theorem dX1_init_44 : decode cX1_init 44 = .ok (.iastore, 1) := by decide +kernel
theorem dX1_init_45 : decode cX1_init 45 = .ok (.dup, 1) := by decide +kernel
theorem dX1_init_46 : decode cX1_init 46 = .ok (.iconst 5, 1) := by decide +kernel
theorem dX1_init_47 : decode cX1_init 47 = .ok (.iconst (-1), 1) := by decide +kernel
theorem dX1_init_48 : decode cX1_init 48 = .ok (.iastore, 1) := by decide +kernel
theorem dX1_init_49 : decode cX1_init 49 = .ok (.dup, 1) := by decide +kernel
theorem dX1_init_50 : decode cX1_init 50 = .ok (.bipush 6, 2) := by decide +kernel
theorem dX1_init_52 : decode cX1_init 52 = .ok (.iconst (-1), 1) := by decide +kernel
theorem dX1_init_53 : decode cX1_init 53 = .ok (.iastore, 1) := by decide +kernel
theorem dX1_init_54 : decode cX1_init 54 = .ok (.dup, 1) := by decide +kernel
theorem dX1_init_55 : decode cX1_init 55 = .ok (.bipush 7, 2) := by decide +kernel
theorem dX1_init_57 : decode cX1_init 57 = .ok (.iconst (-1), 1) := by decide +kernel
theorem dX1_init_58 : decode cX1_init 58 = .ok (.iastore, 1) := by decide +kernel
theorem dX1_init_59 : decode cX1_init 59 = .ok (.dup, 1) := by decide +kernel
theorem dX1_init_60 : decode cX1_init 60 = .ok (.bipush 8, 2) := by decide +kernel
theorem dX1_init_62 : decode cX1_init 62 = .ok (.iconst (-1), 1) := by decide +kernel
theorem dX1_init_63 : decode cX1_init 63 = .ok (.iastore, 1) := by decide +kernel
theorem dX1_init_64 : decode cX1_init 64 = .ok (.dup, 1) := by decide +kernel
theorem dX1_init_65 : decode cX1_init 65 = .ok (.bipush 9, 2) := by decide +kernel
theorem dX1_init_67 : decode cX1_init 67 = .ok (.iconst (-1), 1) := by decide +kernel
theorem dX1_init_68 : decode cX1_init 68 = .ok (.iastore, 1) := by decide +kernel
theorem dX1_init_69 : decode cX1_init 69 = .ok (.putfield 18, 3) := by decide +kernel
theorem dX1_init_72 : decode cX1_init 72 = .ok (.aload_n 0, 1) := by decide +kernel
theorem dX1_init_73 : decode cX1_init 73 = .ok (.iconst 0, 1) := by decide +kernel
theorem dX1_init_74 : decode cX1_init 74 = .ok (.putfield 21, 3) := by decide +kernel
theorem dX1_init_77 : decode cX1_init 77 = .ok (.aload_n 0, 1) := by decide +kernel
theorem dX1_init_78 : decode cX1_init 78 = .ok (.iconst 0, 1) := by decide +kernel
theorem dX1_init_79 : decode cX1_init 79 = .ok (.putfield 25, 3) := by decide +kernel
theorem dX1_init_82 : decode cX1_init 82 = .ok (.aload_n 0, 1) := by decide +kernel
theorem dX1_init_83 : decode cX1_init 83 = .ok (.iconst 0, 1) := by decide +kernel
theorem dX1_init_84 : decode cX1_init 84 = .ok (.putfield 28, 3) := by decide +kernel
theorem dX1_init_87 : decode cX1_init 87 = .ok (.aload_n 0, 1) := by decide +kernel
theorem dX1_init_88 : decode cX1_init 88 = .ok (.iconst 0, 1) := by decide +kernel
theorem dX1_init_89 : decode cX1_init 89 = .ok (.putfield 32, 3) := by decide +kernel
theorem dX1_init_92 : decode cX1_init 92 = .ok (.aload_n 0, 1) := by decide +kernel
theorem dX1_init_93 : decode cX1_init 93 = .ok (.iconst 0, 1) := by decide +kernel
theorem dX1_init_94 : decode cX1_init 94 = .ok (.putfield 35, 3) := by decide +kernel
theorem dX1_init_97 : decode cX1_init 97 = .ok (.aload_n 0, 1) := by decide +kernel
theorem dX1_init_98 : decode cX1_init 98 = .ok (.iconst 1, 1) := by decide +kernel
theorem dX1_init_99 : decode cX1_init 99 = .ok (.putfield 38, 3) := by decide +kernel
theorem dX1_init_102 : decode cX1_init 102 = .ok (.return_, 1) := by decide +kernel
set_option maxRecDepth 20000 in
theorem ggX1_become_X6_copyRow : GoodIn wsX1_become wsX6_copyRow := goodIn_r _ [12, 13, 14, 15, 16, 17, 18, 19, 20] (by decide +kernel) (by decide +kernel)
set_option maxRecDepth 20000 in
theorem gX1_become_X6_copyRow_n41 : GoodIn wsX1_become (wsX6_copyRow) := ggX1_become_X6_copyRow
theorem dX1_become_0 : decode cX1_become 0 = .ok (.aload_n 1, 1) := by decide +kernel
theorem dX1_become_1 : decode cX1_become 1 = .ok (.getfield 9, 3) := by decide +kernel
theorem dX1_become_4 : decode cX1_become 4 = .ok (.aload_n 0, 1) := by decide +kernel
theorem dX1_become_5 : decode cX1_become 5 = .ok (.getfield 9, 3) := by decide +kernel
theorem dX1_become_8 : decode cX1_become 8 = .ok (.invokestatic 41, 3) := by decide +kernel
theorem dX1_become_11 : decode cX1_become 11 = .ok (.aload_n 1, 1) := by decide +kernel
theorem dX1_become_12 : decode cX1_become 12 = .ok (.getfield 15, 3) := by decide +kernel
theorem dX1_become_15 : decode cX1_become 15 = .ok (.aload_n 0, 1) := by decide +kernel
theorem dX1_become_16 : decode cX1_become 16 = .ok (.getfield 15, 3) := by decide +kernel
theorem dX1_become_19 : decode cX1_become 19 = .ok (.invokestatic 41, 3) := by decide +kernel
theorem dX1_become_22 : decode cX1_become 22 = .ok (.aload_n 1, 1) := by decide +kernel
theorem dX1_become_23 : decode cX1_become 23 = .ok (.getfield 18, 3) := by decide +kernel
theorem dX1_become_26 : decode cX1_become 26 = .ok (.aload_n 0, 1) := by decide +kernel
theorem dX1_become_27 : decode cX1_become 27 = .ok (.getfield 18, 3) := by decide +kernel
theorem dX1_become_30 : decode cX1_become 30 = .ok (.invokestatic 41, 3) := by decide +kernel
theorem dX1_become_33 : decode cX1_become 33 = .ok (.aload_n 0, 1) := by decide +kernel
theorem dX1_become_34 : decode cX1_become 34 = .ok (.aload_n 1, 1) := by decide +kernel
theorem dX1_become_35 : decode cX1_become 35 = .ok (.getfield 21, 3) := by decide +kernel
theorem dX1_become_38 : decode cX1_become 38 = .ok (.putfield 21, 3) := by decide +kernel
theorem dX1_become_41 : decode cX1_become 41 = .ok (.aload_n 0, 1) := by decide +kernel
theorem dX1_become_42 : decode cX1_become 42 = .ok (.aload_n 1, 1) := by decide +kernel
theorem dX1_become_43 : decode cX1_become 43 = .ok (.getfield 25, 3) := by decide +kernel
theorem dX1_become_46 : decode cX1_become 46 = .ok (.putfield 25, 3) := by decide +kernel
theorem dX1_become_49 : decode cX1_become 49 = .ok (.aload_n 0, 1) := by decide +kernel
theorem dX1_become_50 : decode cX1_become 50 = .ok (.aload_n 1, 1) := by decide +kernel
theorem dX1_become_51 : decode cX1_become 51 = .ok (.getfield 28, 3) := by decide +kernel
theorem dX1_become_54 : decode cX1_become 54 = .ok (.putfield 28, 3) := by decide +kernel
theorem dX1_become_57 : decode cX1_become 57 = .ok (.aload_n 0, 1) := by decide +kernel
theorem dX1_become_58 : decode cX1_become 58 = .ok (.aload_n 1, 1) := by decide +kernel
theorem dX1_become_59 : decode cX1_become 59 = .ok (.getfield 32, 3) := by decide +kernel
theorem dX1_become_62 : decode cX1_become 62 = .ok (.putfield 32, 3) := by decide +kernel
theorem dX1_become_65 : decode cX1_become 65 = .ok (.aload_n 0, 1) := by decide +kernel
theorem dX1_become_66 : decode cX1_become 66 = .ok (.aload_n 1, 1) := by decide +kernel
theorem dX1_become_67 : decode cX1_become 67 = .ok (.getfield 35, 3) := by decide +kernel
theorem dX1_become_70 : decode cX1_become 70 = .ok (.putfield 35, 3) := by decide +kernel
theorem dX1_become_73 : decode cX1_become 73 = .ok (.aload_n 0, 1) := by decide +kernel
theorem dX1_become_74 : decode cX1_become 74 = .ok (.aload_n 1, 1) := by decide +kernel
theorem dX1_become_75 : decode cX1_become 75 = .ok (.getfield 38, 3) := by decide +kernel
theorem dX1_become_78 : decode cX1_become 78 = .ok (.putfield 38, 3) := by decide +kernel
theorem dX1_become_81 : decode cX1_become 81 = .ok (.return_, 1) := by decide +kernel
theorem dX1_hasCistern_0 : decode cX1_hasCistern 0 = .ok (.iload_n 1, 1) := by decide +kernel
theorem dX1_hasCistern_1 : decode cX1_hasCistern 1 = .ok (.ifCond .lt 15, 3) := by decide +kernel
theorem dX1_hasCistern_4 : decode cX1_hasCistern 4 = .ok (.iload_n 1, 1) := by decide +kernel
theorem dX1_hasCistern_5 : decode cX1_hasCistern 5 = .ok (.aload_n 0, 1) := by decide +kernel
theorem dX1_hasCistern_6 : decode cX1_hasCistern 6 = .ok (.getfield 21, 3) := by decide +kernel
theorem dX1_hasCistern_9 : decode cX1_hasCistern 9 = .ok (.if_icmp .ge 7, 3) := by decide +kernel
theorem dX1_hasCistern_12 : decode cX1_hasCistern 12 = .ok (.iconst 1, 1) := by decide +kernel
theorem dX1_hasCistern_13 : decode cX1_hasCistern 13 = .ok (.goto 4, 3) := by decide +kernel
theorem dX1_hasCistern_16 : decode cX1_hasCistern 16 = .ok (.iconst 0, 1) := by decide +kernel
theorem dX1_hasCistern_17 : decode cX1_hasCistern 17 = .ok (.ireturn, 1) := by decide +kernel
theorem dX1_get_0 : decode cX1_get 0 = .ok (.iload_n 1, 1) := by decide +kernel
theorem dX1_get_1 : decode cX1_get 1 = .ok (.bipush 11, 2) := by decide +kernel
theorem dX1_get_3 : decode cX1_get 3 = .ok (.imul, 1) := by decide +kernel
theorem dX1_get_4 : decode cX1_get 4 = .ok (.iload_n 2, 1) := by decide +kernel
theorem dX1_get_5 : decode cX1_get 5 = .ok (.iadd, 1) := by decide +kernel
theorem dX1_get_6 : decode cX1_get 6 = .ok (.istore_n 3, 1) := by decide +kernel
theorem dX1_get_7 : decode cX1_get 7 = .ok (.iload_n 3, 1) := by decide +kernel
theorem dX1_get_8 : decode cX1_get 8 = .ok (.ifCond .lt 21, 3) := by decide +kernel
theorem dX1_get_11 : decode cX1_get 11 = .ok (.iload_n 3, 1) := by decide +kernel
theorem dX1_get_12 : decode cX1_get 12 = .ok (.aload_n 0, 1) := by decide +kernel
theorem dX1_get_13 : decode cX1_get 13 = .ok (.getfield 9, 3) := by decide +kernel
theorem dX1_get_16 : decode cX1_get 16 = .ok (.arraylength, 1) := by decide +kernel
theorem dX1_get_17 : decode cX1_get 17 = .ok (.if_icmp .ge 12, 3) := by decide +kernel
theorem dX1_get_20 : decode cX1_get 20 = .ok (.aload_n 0, 1) := by decide +kernel
theorem dX1_get_21 : decode cX1_get 21 = .ok (.getfield 9, 3) := by decide +kernel
theorem dX1_get_24 : decode cX1_get 24 = .ok (.iload_n 3, 1) := by decide +kernel
theorem dX1_get_25 : decode cX1_get 25 = .ok (.iaload, 1) := by decide +kernel
theorem dX1_get_26 : decode cX1_get 26 = .ok (.goto 4, 3) := by decide +kernel
theorem dX1_get_29 : decode cX1_get 29 = .ok (.iconst 0, 1) := by decide +kernel
theorem dX1_get_30 : decode cX1_get 30 = .ok (.ireturn, 1) := by decide +kernel
theorem dX1_set_0 : decode cX1_set 0 = .ok (.iload_n 1, 1) := by decide +kernel
theorem dX1_set_1 : decode cX1_set 1 = .ok (.bipush 11, 2) := by decide +kernel
theorem dX1_set_3 : decode cX1_set 3 = .ok (.imul, 1) := by decide +kernel
theorem dX1_set_4 : decode cX1_set 4 = .ok (.iload_n 2, 1) := by decide +kernel
theorem dX1_set_5 : decode cX1_set 5 = .ok (.iadd, 1) := by decide +kernel
theorem dX1_set_6 : decode cX1_set 6 = .ok (.istore 4, 2) := by decide +kernel
theorem dX1_set_8 : decode cX1_set 8 = .ok (.iload 4, 2) := by decide +kernel
theorem dX1_set_10 : decode cX1_set 10 = .ok (.ifCond .lt 21, 3) := by decide +kernel
theorem dX1_set_13 : decode cX1_set 13 = .ok (.iload 4, 2) := by decide +kernel
theorem dX1_set_15 : decode cX1_set 15 = .ok (.aload_n 0, 1) := by decide +kernel
theorem dX1_set_16 : decode cX1_set 16 = .ok (.getfield 9, 3) := by decide +kernel
theorem dX1_set_19 : decode cX1_set 19 = .ok (.arraylength, 1) := by decide +kernel
theorem dX1_set_20 : decode cX1_set 20 = .ok (.if_icmp .ge 11, 3) := by decide +kernel
theorem dX1_set_23 : decode cX1_set 23 = .ok (.aload_n 0, 1) := by decide +kernel
theorem dX1_set_24 : decode cX1_set 24 = .ok (.getfield 9, 3) := by decide +kernel
theorem dX1_set_27 : decode cX1_set 27 = .ok (.iload 4, 2) := by decide +kernel
theorem dX1_set_29 : decode cX1_set 29 = .ok (.iload_n 3, 1) := by decide +kernel
theorem dX1_set_30 : decode cX1_set 30 = .ok (.iastore, 1) := by decide +kernel
theorem dX1_set_31 : decode cX1_set 31 = .ok (.return_, 1) := by decide +kernel
set_option maxRecDepth 20000 in
theorem ggX1_addCistern_X1_set : GoodIn wsX1_addCistern wsX1_set := goodIn_r _ [6, 7, 8, 9, 10, 11, 12, 13, 14, 15, 16] (by decide +kernel) (by decide +kernel)
set_option maxRecDepth 20000 in
theorem gX1_addCistern_X1_set : GoodIn wsX1_addCistern (wsV RX1 45 RX1 yX1_set wsX1_set) := goodIn_app (goodIn_of _ (by decide +kernel)) ggX1_addCistern_X1_set
theorem dX1_addCistern_0 : decode cX1_addCistern 0 = .ok (.aload_n 0, 1) := by decide +kernel
theorem dX1_addCistern_1 : decode cX1_addCistern 1 = .ok (.getfield 21, 3) := by decide +kernel
theorem dX1_addCistern_4 : decode cX1_addCistern 4 = .ok (.istore_n 3, 1) := by decide +kernel
theorem dX1_addCistern_5 : decode cX1_addCistern 5 = .ok (.aload_n 0, 1) := by decide +kernel
theorem dX1_addCistern_6 : decode cX1_addCistern 6 = .ok (.dup, 1) := by decide +kernel
theorem dX1_addCistern_7 : decode cX1_addCistern 7 = .ok (.getfield 21, 3) := by decide +kernel
theorem dX1_addCistern_10 : decode cX1_addCistern 10 = .ok (.iconst 1, 1) := by decide +kernel
theorem dX1_addCistern_11 : decode cX1_addCistern 11 = .ok (.iadd, 1) := by decide +kernel
theorem dX1_addCistern_12 : decode cX1_addCistern 12 = .ok (.putfield 21, 3) := by decide +kernel
theorem dX1_addCistern_15 : decode cX1_addCistern 15 = .ok (.aload_n 0, 1) := by decide +kernel
theorem dX1_addCistern_16 : decode cX1_addCistern 16 = .ok (.iload_n 3, 1) := by decide +kernel
theorem dX1_addCistern_17 : decode cX1_addCistern 17 = .ok (.iconst 0, 1) := by decide +kernel
theorem dX1_addCistern_18 : decode cX1_addCistern 18 = .ok (.iload_n 1, 1) := by decide +kernel
theorem dX1_addCistern_19 : decode cX1_addCistern 19 = .ok (.invokevirtual 45, 3) := by decide +kernel
theorem dX1_addCistern_22 : decode cX1_addCistern 22 = .ok (.aload_n 0, 1) := by decide +kernel
theorem dX1_addCistern_23 : decode cX1_addCistern 23 = .ok (.iload_n 3, 1) := by decide +kernel
theorem dX1_addCistern_24 : decode cX1_addCistern 24 = .ok (.iconst 1, 1) := by decide +kernel
theorem dX1_addCistern_25 : decode cX1_addCistern 25 = .ok (.iload_n 2, 1) := by decide +kernel
theorem dX1_addCistern_26 : decode cX1_addCistern 26 = .ok (.invokevirtual 45, 3) := by decide +kernel
theorem dX1_addCistern_29 : decode cX1_addCistern 29 = .ok (.aload_n 0, 1) := by decide +kernel
theorem dX1_addCistern_30 : decode cX1_addCistern 30 = .ok (.iload_n 3, 1) := by decide +kernel
theorem dX1_addCistern_31 : decode cX1_addCistern 31 = .ok (.iconst 2, 1) := by decide +kernel
theorem dX1_addCistern_32 : decode cX1_addCistern 32 = .ok (.iconst 0, 1) := by decide +kernel
theorem dX1_addCistern_33 : decode cX1_addCistern 33 = .ok (.invokevirtual 45, 3) := by decide +kernel
theorem dX1_addCistern_36 : decode cX1_addCistern 36 = .ok (.aload_n 0, 1) := by decide +kernel
theorem dX1_addCistern_37 : decode cX1_addCistern 37 = .ok (.iload_n 3, 1) := by decide +kernel
theorem dX1_addCistern_38 : decode cX1_addCistern 38 = .ok (.iconst 3, 1) := by decide +kernel
theorem dX1_addCistern_39 : decode cX1_addCistern 39 = .ok (.iconst 1, 1) := by decide +kernel
theorem dX1_addCistern_40 : decode cX1_addCistern 40 = .ok (.invokevirtual 45, 3) := by decide +kernel
theorem dX1_addCistern_43 : decode cX1_addCistern 43 = .ok (.aload_n 0, 1) := by decide +kernel
theorem dX1_addCistern_44 : decode cX1_addCistern 44 = .ok (.iload_n 3, 1) := by decide +kernel
theorem dX1_addCistern_45 : decode cX1_addCistern 45 = .ok (.iconst 4, 1) := by decide +kernel
theorem dX1_addCistern_46 : decode cX1_addCistern 46 = .ok (.iconst (-1), 1) := by decide +kernel
theorem dX1_addCistern_47 : decode cX1_addCistern 47 = .ok (.invokevirtual 45, 3) := by decide +kernel
theorem dX1_addCistern_50 : decode cX1_addCistern 50 = .ok (.aload_n 0, 1) := by decide +kernel
theorem dX1_addCistern_51 : decode cX1_addCistern 51 = .ok (.iload_n 3, 1) := by decide +kernel
theorem dX1_addCistern_52 : decode cX1_addCistern 52 = .ok (.iconst 5, 1) := by decide +kernel
theorem dX1_addCistern_53 : decode cX1_addCistern 53 = .ok (.iconst 0, 1) := by decide +kernel
theorem dX1_addCistern_54 : decode cX1_addCistern 54 = .ok (.invokevirtual 45, 3) := by decide +kernel
theorem dX1_addCistern_57 : decode cX1_addCistern 57 = .ok (.iconst 0, 1) := by decide +kernel
theorem dX1_addCistern_58 : decode cX1_addCistern 58 = .ok (.istore 4, 2) := by decide +kernel
theorem dX1_addCistern_60 : decode cX1_addCistern 60 = .ok (.iload 4, 2) := by decide +kernel
theorem dX1_addCistern_62 : decode cX1_addCistern 62 = .ok (.iconst 4, 1) := by decide +kernel
theorem dX1_addCistern_63 : decode cX1_addCistern 63 = .ok (.if_icmp .ge 20, 3) := by decide +kernel
theorem dX1_addCistern_66 : decode cX1_addCistern 66 = .ok (.aload_n 0, 1) := by decide +kernel
theorem dX1_addCistern_67 : decode cX1_addCistern 67 = .ok (.iload_n 3, 1) := by decide +kernel
theorem dX1_addCistern_68 : decode cX1_addCistern 68 = .ok (.bipush 7, 2) := by decide +kernel
theorem dX1_addCistern_70 : decode cX1_addCistern 70 = .ok (.iload 4, 2) := by decide +kernel
theorem dX1_addCistern_72 : decode cX1_addCistern 72 = .ok (.iadd, 1) := by decide +kernel
theorem dX1_addCistern_73 : decode cX1_addCistern 73 = .ok (.iconst 1, 1) := by decide +kernel
theorem dX1_addCistern_74 : decode cX1_addCistern 74 = .ok (.invokevirtual 45, 3) := by decide +kernel
theorem dX1_addCistern_77 : decode cX1_addCistern 77 = .ok (.iinc 4 1, 3) := by decide +kernel
theorem dX1_addCistern_80 : decode cX1_addCistern 80 = .ok (.goto (-20), 3) := by decide +kernel
theorem dX1_addCistern_83 : decode cX1_addCistern 83 = .ok (.iload_n 3, 1) := by decide +kernel
theorem dX1_addCistern_84 : decode cX1_addCistern 84 = .ok (.ireturn, 1) := by decide +kernel
set_option maxRecDepth 20000 in
theorem ggX1_mayBecome_X1_get : GoodIn wsX1_mayBecome wsX1_get := goodIn_r _ [9, 10, 16, 17, 18, 19, 20, 21, 22, 23, 24] (by decide +kernel) (by decide +kernel)
set_option maxRecDepth 20000 in
theorem gX1_mayBecome_X1_get : GoodIn wsX1_mayBecome (wsV RX1 49 RX1 yX1_get wsX1_get) := goodIn_app (goodIn_of _ (by decide +kernel)) ggX1_mayBecome_X1_get
set_option maxRecDepth 20000 in
theorem ggX1_mayBecome_X6_at : GoodIn wsX1_mayBecome wsX6_at := goodIn_r _ [13] (by decide +kernel) (by decide +kernel)
set_option maxRecDepth 20000 in
theorem gX1_mayBecome_X6_at_n61 : GoodIn wsX1_mayBecome (wsX6_at) := ggX1_mayBecome_X6_at
set_option maxRecDepth 20000 in
theorem ggX1_mayBecome_X6_isWithin : GoodIn wsX1_mayBecome wsX6_isWithin := goodIn_r _ [15] (by decide +kernel) (by decide +kernel)
set_option maxRecDepth 20000 in
theorem gX1_mayBecome_X6_isWithin_n68 : GoodIn wsX1_mayBecome (wsX6_isWithin) := ggX1_mayBecome_X6_isWithin
theorem dX1_mayBecome_0 : decode cX1_mayBecome 0 = .ok (.iload_n 2, 1) := by decide +kernel
theorem dX1_mayBecome_1 : decode cX1_mayBecome 1 = .ok (.iconst 1, 1) := by decide +kernel
theorem dX1_mayBecome_2 : decode cX1_mayBecome 2 = .ok (.if_icmp .ne 16, 3) := by decide +kernel
theorem dX1_mayBecome_5 : decode cX1_mayBecome 5 = .ok (.iconst 1, 1) := by decide +kernel
theorem dX1_mayBecome_6 : decode cX1_mayBecome 6 = .ok (.aload_n 0, 1) := by decide +kernel
theorem dX1_mayBecome_7 : decode cX1_mayBecome 7 = .ok (.iload_n 1, 1) := by decide +kernel
theorem dX1_mayBecome_8 : decode cX1_mayBecome 8 = .ok (.iconst 2, 1) := by decide +kernel
theorem dX1_mayBecome_9 : decode cX1_mayBecome 9 = .ok (.invokevirtual 49, 3) := by decide +kernel
theorem dX1_mayBecome_12 : decode cX1_mayBecome 12 = .ok (.invokestatic 53, 3) := by decide +kernel
theorem dX1_mayBecome_15 : decode cX1_mayBecome 15 = .ok (.goto 10, 3) := by decide +kernel
theorem dX1_mayBecome_18 : decode cX1_mayBecome 18 = .ok (.getstatic 58, 3) := by decide +kernel
theorem dX1_mayBecome_21 : decode cX1_mayBecome 21 = .ok (.iload_n 2, 1) := by decide +kernel
theorem dX1_mayBecome_22 : decode cX1_mayBecome 22 = .ok (.invokestatic 61, 3) := by decide +kernel
theorem dX1_mayBecome_25 : decode cX1_mayBecome 25 = .ok (.istore 4, 2) := by decide +kernel
theorem dX1_mayBecome_27 : decode cX1_mayBecome 27 = .ok (.iload_n 2, 1) := by decide +kernel
theorem dX1_mayBecome_28 : decode cX1_mayBecome 28 = .ok (.iconst 2, 1) := by decide +kernel
theorem dX1_mayBecome_29 : decode cX1_mayBecome 29 = .ok (.if_icmp .ne 12, 3) := by decide +kernel
theorem dX1_mayBecome_32 : decode cX1_mayBecome 32 = .ok (.aload_n 0, 1) := by decide +kernel
theorem dX1_mayBecome_33 : decode cX1_mayBecome 33 = .ok (.iload_n 1, 1) := by decide +kernel
theorem dX1_mayBecome_34 : decode cX1_mayBecome 34 = .ok (.iconst 1, 1) := by decide +kernel
theorem dX1_mayBecome_35 : decode cX1_mayBecome 35 = .ok (.invokevirtual 49, 3) := by decide +kernel
theorem dX1_mayBecome_38 : decode cX1_mayBecome 38 = .ok (.goto 10, 3) := by decide +kernel
theorem dX1_mayBecome_41 : decode cX1_mayBecome 41 = .ok (.getstatic 65, 3) := by decide +kernel
theorem dX1_mayBecome_44 : decode cX1_mayBecome 44 = .ok (.iload_n 2, 1) := by decide +kernel
theorem dX1_mayBecome_45 : decode cX1_mayBecome 45 = .ok (.invokestatic 61, 3) := by decide +kernel
theorem dX1_mayBecome_48 : decode cX1_mayBecome 48 = .ok (.istore 5, 2) := by decide +kernel
theorem dX1_mayBecome_50 : decode cX1_mayBecome 50 = .ok (.iload_n 2, 1) := by decide +kernel
theorem dX1_mayBecome_51 : decode cX1_mayBecome 51 = .ok (.bipush 6, 2) := by decide +kernel
theorem dX1_mayBecome_53 : decode cX1_mayBecome 53 = .ok (.if_icmp .eq 18, 3) := by decide +kernel
theorem dX1_mayBecome_56 : decode cX1_mayBecome 56 = .ok (.iload_n 3, 1) := by decide +kernel
theorem dX1_mayBecome_57 : decode cX1_mayBecome 57 = .ok (.iload 4, 2) := by decide +kernel
theorem dX1_mayBecome_59 : decode cX1_mayBecome 59 = .ok (.iload 5, 2) := by decide +kernel
theorem dX1_mayBecome_61 : decode cX1_mayBecome 61 = .ok (.invokestatic 68, 3) := by decide +kernel
theorem dX1_mayBecome_64 : decode cX1_mayBecome 64 = .ok (.ifCond .eq 7, 3) := by decide +kernel
theorem dX1_mayBecome_67 : decode cX1_mayBecome 67 = .ok (.iconst 1, 1) := by decide +kernel
theorem dX1_mayBecome_68 : decode cX1_mayBecome 68 = .ok (.goto 4, 3) := by decide +kernel
theorem dX1_mayBecome_71 : decode cX1_mayBecome 71 = .ok (.iconst 0, 1) := by decide +kernel
theorem dX1_mayBecome_72 : decode cX1_mayBecome 72 = .ok (.ireturn, 1) := by decide +kernel
set_option maxRecDepth 20000 in
theorem ggX1_isOf_X1_get : GoodIn wsX1_isOf wsX1_get := goodIn_r _ [5, 6, 7, 8, 9, 10, 11, 12, 13, 14, 15] (by decide +kernel) (by decide +kernel)
set_option maxRecDepth 20000 in
theorem gX1_isOf_X1_get : GoodIn wsX1_isOf (wsV RX1 49 RX1 yX1_get wsX1_get) := goodIn_app (goodIn_of _ (by decide +kernel)) ggX1_isOf_X1_get
theorem dX1_isOf_0 : decode cX1_isOf 0 = .ok (.aload_n 0, 1) := by decide +kernel
theorem dX1_isOf_1 : decode cX1_isOf 1 = .ok (.iload_n 1, 1) := by decide +kernel
theorem dX1_isOf_2 : decode cX1_isOf 2 = .ok (.iconst 0, 1) := by decide +kernel
theorem dX1_isOf_3 : decode cX1_isOf 3 = .ok (.invokevirtual 49, 3) := by decide +kernel
theorem dX1_isOf_6 : decode cX1_isOf 6 = .ok (.istore_n 3, 1) := by decide +kernel
theorem dX1_isOf_7 : decode cX1_isOf 7 = .ok (.iload_n 3, 1) := by decide +kernel
theorem dX1_isOf_8 : decode cX1_isOf 8 = .ok (.ifCond .lt 28, 3) := by decide +kernel
theorem dX1_isOf_11 : decode cX1_isOf 11 = .ok (.iload_n 3, 1) := by decide +kernel
theorem dX1_isOf_12 : decode cX1_isOf 12 = .ok (.getstatic 72, 3) := by decide +kernel
theorem dX1_isOf_15 : decode cX1_isOf 15 = .ok (.arraylength, 1) := by decide +kernel
theorem dX1_isOf_16 : decode cX1_isOf 16 = .ok (.if_icmp .ge 20, 3) := by decide +kernel
theorem dX1_isOf_19 : decode cX1_isOf 19 = .ok (.getstatic 72, 3) := by decide +kernel
theorem dX1_isOf_22 : decode cX1_isOf 22 = .ok (.iload_n 3, 1) := by decide +kernel
theorem dX1_isOf_23 : decode cX1_isOf 23 = .ok (.iaload, 1) := by decide +kernel
theorem dX1_isOf_24 : decode cX1_isOf 24 = .ok (.iload_n 2, 1) := by decide +kernel
theorem dX1_isOf_25 : decode cX1_isOf 25 = .ok (.ishr, 1) := by decide +kernel
theorem dX1_isOf_26 : decode cX1_isOf 26 = .ok (.iconst 1, 1) := by decide +kernel
theorem dX1_isOf_27 : decode cX1_isOf 27 = .ok (.iand, 1) := by decide +kernel
theorem dX1_isOf_28 : decode cX1_isOf 28 = .ok (.iconst 1, 1) := by decide +kernel
theorem dX1_isOf_29 : decode cX1_isOf 29 = .ok (.if_icmp .ne 7, 3) := by decide +kernel
theorem dX1_isOf_32 : decode cX1_isOf 32 = .ok (.iconst 1, 1) := by decide +kernel
theorem dX1_isOf_33 : decode cX1_isOf 33 = .ok (.goto 4, 3) := by decide +kernel
theorem dX1_isOf_36 : decode cX1_isOf 36 = .ok (.iconst 0, 1) := by decide +kernel
theorem dX1_isOf_37 : decode cX1_isOf 37 = .ok (.ireturn, 1) := by decide +kernel
set_option maxRecDepth 20000 in
theorem ggX1_caught_X1_get : GoodIn wsX1_caught wsX1_get := goodIn_r _ [6, 7, 12, 13, 14, 15, 16, 17, 18, 19, 20] (by decide +kernel) (by decide +kernel)
set_option maxRecDepth 20000 in
theorem gX1_caught_X1_get : GoodIn wsX1_caught (wsV RX1 49 RX1 yX1_get wsX1_get) := goodIn_app (goodIn_of _ (by decide +kernel)) ggX1_caught_X1_get
set_option maxRecDepth 20000 in
theorem ggX1_caught_X1_isOf : GoodIn wsX1_caught wsX1_isOf := goodIn_r _ [11, 2, 3, 4, 5, 6, 7, 12, 13, 14, 15, 16, 17, 18, 19, 20] (by decide +kernel) (by decide +kernel)
set_option maxRecDepth 20000 in
theorem gX1_caught_X1_isOf : GoodIn wsX1_caught (wsV RX1 75 RX1 yX1_isOf wsX1_isOf) := goodIn_app (goodIn_of _ (by decide +kernel)) ggX1_caught_X1_isOf
theorem dX1_caught_0 : decode cX1_caught 0 = .ok (.aload_n 0, 1) := by decide +kernel
theorem dX1_caught_1 : decode cX1_caught 1 = .ok (.iload_n 1, 1) := by decide +kernel
theorem dX1_caught_2 : decode cX1_caught 2 = .ok (.iconst 5, 1) := by decide +kernel
theorem dX1_caught_3 : decode cX1_caught 3 = .ok (.invokevirtual 49, 3) := by decide +kernel
theorem dX1_caught_6 : decode cX1_caught 6 = .ok (.iconst 1, 1) := by decide +kernel
theorem dX1_caught_7 : decode cX1_caught 7 = .ok (.if_icmp .eq 19, 3) := by decide +kernel
theorem dX1_caught_10 : decode cX1_caught 10 = .ok (.aload_n 0, 1) := by decide +kernel
theorem dX1_caught_11 : decode cX1_caught 11 = .ok (.getfield 28, 3) := by decide +kernel
theorem dX1_caught_14 : decode cX1_caught 14 = .ok (.ifCond .eq 14, 3) := by decide +kernel
theorem dX1_caught_17 : decode cX1_caught 17 = .ok (.aload_n 0, 1) := by decide +kernel
theorem dX1_caught_18 : decode cX1_caught 18 = .ok (.iload_n 1, 1) := by decide +kernel
theorem dX1_caught_19 : decode cX1_caught 19 = .ok (.iconst 5, 1) := by decide +kernel
theorem dX1_caught_20 : decode cX1_caught 20 = .ok (.invokevirtual 75, 3) := by decide +kernel
theorem dX1_caught_23 : decode cX1_caught 23 = .ok (.ifCond .eq 5, 3) := by decide +kernel
theorem dX1_caught_26 : decode cX1_caught 26 = .ok (.iconst 0, 1) := by decide +kernel
theorem dX1_caught_27 : decode cX1_caught 27 = .ok (.ireturn, 1) := by decide +kernel
theorem dX1_caught_28 : decode cX1_caught 28 = .ok (.iload_n 3, 1) := by decide +kernel
theorem dX1_caught_29 : decode cX1_caught 29 = .ok (.aload_n 0, 1) := by decide +kernel
theorem dX1_caught_30 : decode cX1_caught 30 = .ok (.iload_n 1, 1) := by decide +kernel
theorem dX1_caught_31 : decode cX1_caught 31 = .ok (.bipush 7, 2) := by decide +kernel
theorem dX1_caught_33 : decode cX1_caught 33 = .ok (.iload_n 2, 1) := by decide +kernel
theorem dX1_caught_34 : decode cX1_caught 34 = .ok (.iadd, 1) := by decide +kernel
theorem dX1_caught_35 : decode cX1_caught 35 = .ok (.invokevirtual 49, 3) := by decide +kernel
theorem dX1_caught_38 : decode cX1_caught 38 = .ok (.imul, 1) := by decide +kernel
theorem dX1_caught_39 : decode cX1_caught 39 = .ok (.istore 4, 2) := by decide +kernel
theorem dX1_caught_41 : decode cX1_caught 41 = .ok (.aload_n 0, 1) := by decide +kernel
theorem dX1_caught_42 : decode cX1_caught 42 = .ok (.iload_n 1, 1) := by decide +kernel
theorem dX1_caught_43 : decode cX1_caught 43 = .ok (.iconst 2, 1) := by decide +kernel
theorem dX1_caught_44 : decode cX1_caught 44 = .ok (.invokevirtual 75, 3) := by decide +kernel
theorem dX1_caught_47 : decode cX1_caught 47 = .ok (.ifCond .eq 10, 3) := by decide +kernel
theorem dX1_caught_50 : decode cX1_caught 50 = .ok (.iload 4, 2) := by decide +kernel
theorem dX1_caught_52 : decode cX1_caught 52 = .ok (.iconst 2, 1) := by decide +kernel
theorem dX1_caught_53 : decode cX1_caught 53 = .ok (.idiv, 1) := by decide +kernel
theorem dX1_caught_54 : decode cX1_caught 54 = .ok (.goto 5, 3) := by decide +kernel
theorem dX1_caught_57 : decode cX1_caught 57 = .ok (.iload 4, 2) := by decide +kernel
theorem dX1_caught_59 : decode cX1_caught 59 = .ok (.ireturn, 1) := by decide +kernel
set_option maxRecDepth 20000 in
theorem ggX1_leaked_X1_isOf : GoodIn wsX1_leaked wsX1_isOf := goodIn_r _ [10, 11, 12, 13, 9, 14, 15, 16, 17, 18, 19, 20, 21, 22, 23, 24] (by decide +kernel) (by decide +kernel)
set_option maxRecDepth 20000 in
theorem gX1_leaked_X1_isOf : GoodIn wsX1_leaked (wsV RX1 75 RX1 yX1_isOf wsX1_isOf) := goodIn_app (goodIn_of _ (by decide +kernel)) ggX1_leaked_X1_isOf
set_option maxRecDepth 20000 in
theorem ggX1_leaked_X1_get : GoodIn wsX1_leaked wsX1_get := goodIn_r _ [14, 15, 16, 17, 18, 19, 20, 21, 22, 23, 24] (by decide +kernel) (by decide +kernel)
set_option maxRecDepth 20000 in
theorem gX1_leaked_X1_get : GoodIn wsX1_leaked (wsV RX1 49 RX1 yX1_get wsX1_get) := goodIn_app (goodIn_of _ (by decide +kernel)) ggX1_leaked_X1_get
theorem dX1_leaked_0 : decode cX1_leaked 0 = .ok (.aload_n 0, 1) := by decide +kernel
theorem dX1_leaked_1 : decode cX1_leaked 1 = .ok (.iload_n 1, 1) := by decide +kernel
theorem dX1_leaked_2 : decode cX1_leaked 2 = .ok (.bipush 6, 2) := by decide +kernel
theorem dX1_leaked_4 : decode cX1_leaked 4 = .ok (.invokevirtual 75, 3) := by decide +kernel
theorem dX1_leaked_7 : decode cX1_leaked 7 = .ok (.ifCond .ne 19, 3) := by decide +kernel
theorem dX1_leaked_10 : decode cX1_leaked 10 = .ok (.aload_n 0, 1) := by decide +kernel
theorem dX1_leaked_11 : decode cX1_leaked 11 = .ok (.getfield 28, 3) := by decide +kernel
theorem dX1_leaked_14 : decode cX1_leaked 14 = .ok (.ifCond .eq 14, 3) := by decide +kernel
theorem dX1_leaked_17 : decode cX1_leaked 17 = .ok (.aload_n 0, 1) := by decide +kernel
theorem dX1_leaked_18 : decode cX1_leaked 18 = .ok (.iload_n 1, 1) := by decide +kernel
theorem dX1_leaked_19 : decode cX1_leaked 19 = .ok (.iconst 5, 1) := by decide +kernel
theorem dX1_leaked_20 : decode cX1_leaked 20 = .ok (.invokevirtual 75, 3) := by decide +kernel
theorem dX1_leaked_23 : decode cX1_leaked 23 = .ok (.ifCond .eq 5, 3) := by decide +kernel
theorem dX1_leaked_26 : decode cX1_leaked 26 = .ok (.iconst 0, 1) := by decide +kernel
theorem dX1_leaked_27 : decode cX1_leaked 27 = .ok (.ireturn, 1) := by decide +kernel
theorem dX1_leaked_28 : decode cX1_leaked 28 = .ok (.aload_n 0, 1) := by decide +kernel
theorem dX1_leaked_29 : decode cX1_leaked 29 = .ok (.iload_n 1, 1) := by decide +kernel
theorem dX1_leaked_30 : decode cX1_leaked 30 = .ok (.iconst 3, 1) := by decide +kernel
theorem dX1_leaked_31 : decode cX1_leaked 31 = .ok (.invokevirtual 49, 3) := by decide +kernel
theorem dX1_leaked_34 : decode cX1_leaked 34 = .ok (.aload_n 0, 1) := by decide +kernel
theorem dX1_leaked_35 : decode cX1_leaked 35 = .ok (.iload_n 1, 1) := by decide +kernel
theorem dX1_leaked_36 : decode cX1_leaked 36 = .ok (.iconst 2, 1) := by decide +kernel
theorem dX1_leaked_37 : decode cX1_leaked 37 = .ok (.invokevirtual 49, 3) := by decide +kernel
theorem dX1_leaked_40 : decode cX1_leaked 40 = .ok (.invokestatic 79, 3) := by decide +kernel
theorem dX1_leaked_43 : decode cX1_leaked 43 = .ok (.ireturn, 1) := by decide +kernel
set_option maxRecDepth 20000 in
theorem ggX1_shown_X1_get : GoodIn wsX1_shown wsX1_get := goodIn_r _ [5, 6, 11, 12, 13, 14, 15, 16, 17, 18, 19] (by decide +kernel) (by decide +kernel)
set_option maxRecDepth 20000 in
theorem gX1_shown_X1_get : GoodIn wsX1_shown (wsV RX1 49 RX1 yX1_get wsX1_get) := goodIn_app (goodIn_of _ (by decide +kernel)) ggX1_shown_X1_get
set_option maxRecDepth 20000 in
theorem ggX1_shown_X1_isOf : GoodIn wsX1_shown wsX1_isOf := goodIn_r _ [10, 1, 2, 3, 4, 5, 6, 11, 12, 13, 14, 15, 16, 17, 18, 19] (by decide +kernel) (by decide +kernel)
set_option maxRecDepth 20000 in
theorem gX1_shown_X1_isOf : GoodIn wsX1_shown (wsV RX1 75 RX1 yX1_isOf wsX1_isOf) := goodIn_app (goodIn_of _ (by decide +kernel)) ggX1_shown_X1_isOf
theorem dX1_shown_0 : decode cX1_shown 0 = .ok (.aload_n 0, 1) := by decide +kernel
theorem dX1_shown_1 : decode cX1_shown 1 = .ok (.iload_n 1, 1) := by decide +kernel
theorem dX1_shown_2 : decode cX1_shown 2 = .ok (.iconst 2, 1) := by decide +kernel
theorem dX1_shown_3 : decode cX1_shown 3 = .ok (.invokevirtual 49, 3) := by decide +kernel
theorem dX1_shown_6 : decode cX1_shown 6 = .ok (.istore_n 2, 1) := by decide +kernel
theorem dX1_shown_7 : decode cX1_shown 7 = .ok (.aload_n 0, 1) := by decide +kernel
theorem dX1_shown_8 : decode cX1_shown 8 = .ok (.iload_n 1, 1) := by decide +kernel
theorem dX1_shown_9 : decode cX1_shown 9 = .ok (.iconst 4, 1) := by decide +kernel
theorem dX1_shown_10 : decode cX1_shown 10 = .ok (.invokevirtual 75, 3) := by decide +kernel
theorem dX1_shown_13 : decode cX1_shown 13 = .ok (.ifCond .eq 12, 3) := by decide +kernel
theorem dX1_shown_16 : decode cX1_shown 16 = .ok (.aload_n 0, 1) := by decide +kernel
theorem dX1_shown_17 : decode cX1_shown 17 = .ok (.iload_n 1, 1) := by decide +kernel
theorem dX1_shown_18 : decode cX1_shown 18 = .ok (.iconst 1, 1) := by decide +kernel
theorem dX1_shown_19 : decode cX1_shown 19 = .ok (.invokevirtual 49, 3) := by decide +kernel
theorem dX1_shown_22 : decode cX1_shown 22 = .ok (.iload_n 2, 1) := by decide +kernel
theorem dX1_shown_23 : decode cX1_shown 23 = .ok (.isub, 1) := by decide +kernel
theorem dX1_shown_24 : decode cX1_shown 24 = .ok (.ireturn, 1) := by decide +kernel
theorem dX1_shown_25 : decode cX1_shown 25 = .ok (.aload_n 0, 1) := by decide +kernel
theorem dX1_shown_26 : decode cX1_shown 26 = .ok (.iload_n 1, 1) := by decide +kernel
theorem dX1_shown_27 : decode cX1_shown 27 = .ok (.iconst 3, 1) := by decide +kernel
theorem dX1_shown_28 : decode cX1_shown 28 = .ok (.invokevirtual 75, 3) := by decide +kernel
theorem dX1_shown_31 : decode cX1_shown 31 = .ok (.ifCond .eq 12, 3) := by decide +kernel
theorem dX1_shown_34 : decode cX1_shown 34 = .ok (.iload_n 2, 1) := by decide +kernel
theorem dX1_shown_35 : decode cX1_shown 35 = .ok (.iconst 3, 1) := by decide +kernel
theorem dX1_shown_36 : decode cX1_shown 36 = .ok (.if_icmp .ge 7, 3) := by decide +kernel
theorem dX1_shown_39 : decode cX1_shown 39 = .ok (.iconst 0, 1) := by decide +kernel
theorem dX1_shown_40 : decode cX1_shown 40 = .ok (.goto 4, 3) := by decide +kernel
theorem dX1_shown_43 : decode cX1_shown 43 = .ok (.iload_n 2, 1) := by decide +kernel
theorem dX1_shown_44 : decode cX1_shown 44 = .ok (.ireturn, 1) := by decide +kernel
set_option maxRecDepth 20000 in
theorem ggX1_runningOver_X1_get : GoodIn wsX1_runningOver wsX1_get := goodIn_r _ [9, 10, 15, 16, 17, 18, 19, 20, 21, 22, 23] (by decide +kernel) (by decide +kernel)
set_option maxRecDepth 20000 in
theorem gX1_runningOver_X1_get : GoodIn wsX1_runningOver (wsV RX1 49 RX1 yX1_get wsX1_get) := goodIn_app (goodIn_of _ (by decide +kernel)) ggX1_runningOver_X1_get
set_option maxRecDepth 20000 in
theorem ggX1_runningOver_X1_isOf : GoodIn wsX1_runningOver wsX1_isOf := goodIn_r _ [14, 5, 6, 7, 8, 9, 10, 15, 16, 17, 18, 19, 20, 21, 22, 23] (by decide +kernel) (by decide +kernel)
set_option maxRecDepth 20000 in
theorem gX1_runningOver_X1_isOf : GoodIn wsX1_runningOver (wsV RX1 75 RX1 yX1_isOf wsX1_isOf) := goodIn_app (goodIn_of _ (by decide +kernel)) ggX1_runningOver_X1_isOf
theorem dX1_runningOver_0 : decode cX1_runningOver 0 = .ok (.aload_n 0, 1) := by decide +kernel
theorem dX1_runningOver_1 : decode cX1_runningOver 1 = .ok (.iload_n 1, 1) := by decide +kernel
theorem dX1_runningOver_2 : decode cX1_runningOver 2 = .ok (.iconst 2, 1) := by decide +kernel
theorem dX1_runningOver_3 : decode cX1_runningOver 3 = .ok (.invokevirtual 49, 3) := by decide +kernel
theorem dX1_runningOver_6 : decode cX1_runningOver 6 = .ok (.istore_n 2, 1) := by decide +kernel
theorem dX1_runningOver_7 : decode cX1_runningOver 7 = .ok (.iload_n 2, 1) := by decide +kernel
theorem dX1_runningOver_8 : decode cX1_runningOver 8 = .ok (.aload_n 0, 1) := by decide +kernel
theorem dX1_runningOver_9 : decode cX1_runningOver 9 = .ok (.iload_n 1, 1) := by decide +kernel
theorem dX1_runningOver_10 : decode cX1_runningOver 10 = .ok (.iconst 1, 1) := by decide +kernel
theorem dX1_runningOver_11 : decode cX1_runningOver 11 = .ok (.invokevirtual 49, 3) := by decide +kernel
theorem dX1_runningOver_14 : decode cX1_runningOver 14 = .ok (.isub, 1) := by decide +kernel
theorem dX1_runningOver_15 : decode cX1_runningOver 15 = .ok (.istore_n 3, 1) := by decide +kernel
theorem dX1_runningOver_16 : decode cX1_runningOver 16 = .ok (.aload_n 0, 1) := by decide +kernel
theorem dX1_runningOver_17 : decode cX1_runningOver 17 = .ok (.iload_n 1, 1) := by decide +kernel
theorem dX1_runningOver_18 : decode cX1_runningOver 18 = .ok (.iconst 1, 1) := by decide +kernel
theorem dX1_runningOver_19 : decode cX1_runningOver 19 = .ok (.invokevirtual 75, 3) := by decide +kernel
theorem dX1_runningOver_22 : decode cX1_runningOver 22 = .ok (.ifCond .eq 13, 3) := by decide +kernel
theorem dX1_runningOver_25 : decode cX1_runningOver 25 = .ok (.iload_n 3, 1) := by decide +kernel
theorem dX1_runningOver_26 : decode cX1_runningOver 26 = .ok (.ifCond .lt 7, 3) := by decide +kernel
theorem dX1_runningOver_29 : decode cX1_runningOver 29 = .ok (.iload_n 2, 1) := by decide +kernel
theorem dX1_runningOver_30 : decode cX1_runningOver 30 = .ok (.goto 4, 3) := by decide +kernel
theorem dX1_runningOver_33 : decode cX1_runningOver 33 = .ok (.iconst 0, 1) := by decide +kernel
theorem dX1_runningOver_34 : decode cX1_runningOver 34 = .ok (.ireturn, 1) := by decide +kernel
theorem dX1_runningOver_35 : decode cX1_runningOver 35 = .ok (.iconst 0, 1) := by decide +kernel
theorem dX1_runningOver_36 : decode cX1_runningOver 36 = .ok (.iload_n 3, 1) := by decide +kernel
theorem dX1_runningOver_37 : decode cX1_runningOver 37 = .ok (.invokestatic 53, 3) := by decide +kernel
theorem dX1_runningOver_40 : decode cX1_runningOver 40 = .ok (.ireturn, 1) := by decide +kernel
set_option maxRecDepth 20000 in
theorem ggX1_gutterEnd_X1_get : GoodIn wsX1_gutterEnd wsX1_get := goodIn_r _ [5, 6, 12, 13, 14, 15, 16, 17, 18, 19, 20] (by decide +kernel) (by decide +kernel)
set_option maxRecDepth 20000 in
theorem gX1_gutterEnd_X1_get : GoodIn wsX1_gutterEnd (wsV RX1 49 RX1 yX1_get wsX1_get) := goodIn_app (goodIn_of _ (by decide +kernel)) ggX1_gutterEnd_X1_get
set_option maxRecDepth 20000 in
theorem ggX1_gutterEnd_X1_hasCistern : GoodIn wsX1_gutterEnd wsX1_hasCistern := goodIn_r _ [10, 11, 12, 13, 14, 15, 16, 17, 18, 19, 20] (by decide +kernel) (by decide +kernel)
set_option maxRecDepth 20000 in
theorem gX1_gutterEnd_X1_hasCistern : GoodIn wsX1_gutterEnd (wsV RX1 82 RX1 yX1_hasCistern wsX1_hasCistern) := goodIn_app (goodIn_of _ (by decide +kernel)) ggX1_gutterEnd_X1_hasCistern
theorem dX1_gutterEnd_0 : decode cX1_gutterEnd 0 = .ok (.aload_n 0, 1) := by decide +kernel
theorem dX1_gutterEnd_1 : decode cX1_gutterEnd 1 = .ok (.iload_n 1, 1) := by decide +kernel
theorem dX1_gutterEnd_2 : decode cX1_gutterEnd 2 = .ok (.iconst 4, 1) := by decide +kernel
theorem dX1_gutterEnd_3 : decode cX1_gutterEnd 3 = .ok (.invokevirtual 49, 3) := by decide +kernel
theorem dX1_gutterEnd_6 : decode cX1_gutterEnd 6 = .ok (.istore_n 2, 1) := by decide +kernel
theorem dX1_gutterEnd_7 : decode cX1_gutterEnd 7 = .ok (.aload_n 0, 1) := by decide +kernel
theorem dX1_gutterEnd_8 : decode cX1_gutterEnd 8 = .ok (.iload_n 2, 1) := by decide +kernel
theorem dX1_gutterEnd_9 : decode cX1_gutterEnd 9 = .ok (.invokevirtual 82, 3) := by decide +kernel
theorem dX1_gutterEnd_12 : decode cX1_gutterEnd 12 = .ok (.ifCond .eq 12, 3) := by decide +kernel
theorem dX1_gutterEnd_15 : decode cX1_gutterEnd 15 = .ok (.iload_n 2, 1) := by decide +kernel
theorem dX1_gutterEnd_16 : decode cX1_gutterEnd 16 = .ok (.iload_n 1, 1) := by decide +kernel
theorem dX1_gutterEnd_17 : decode cX1_gutterEnd 17 = .ok (.if_icmp .eq 7, 3) := by decide +kernel
theorem dX1_gutterEnd_20 : decode cX1_gutterEnd 20 = .ok (.iload_n 2, 1) := by decide +kernel
theorem dX1_gutterEnd_21 : decode cX1_gutterEnd 21 = .ok (.goto 4, 3) := by decide +kernel
theorem dX1_gutterEnd_24 : decode cX1_gutterEnd 24 = .ok (.iconst (-1), 1) := by decide +kernel
theorem dX1_gutterEnd_25 : decode cX1_gutterEnd 25 = .ok (.ireturn, 1) := by decide +kernel
set_option maxRecDepth 20000 in
theorem ggX1_reachedFrom_X1_gutterEnd : GoodIn wsX1_reachedFrom wsX1_gutterEnd := goodIn_r _ [5, 6, 7, 8, 4, 9, 10, 11, 12, 13, 14, 15, 16, 17, 18, 19, 20, 21, 22, 23, 24] (by decide +kernel) (by decide +kernel)
set_option maxRecDepth 20000 in
theorem gX1_reachedFrom_X1_gutterEnd : GoodIn wsX1_reachedFrom (wsV RX1 86 RX1 yX1_gutterEnd wsX1_gutterEnd) := goodIn_app (goodIn_of _ (by decide +kernel)) ggX1_reachedFrom_X1_gutterEnd
theorem dX1_reachedFrom_0 : decode cX1_reachedFrom 0 = .ok (.iconst 0, 1) := by decide +kernel
theorem dX1_reachedFrom_1 : decode cX1_reachedFrom 1 = .ok (.istore_n 2, 1) := by decide +kernel
theorem dX1_reachedFrom_2 : decode cX1_reachedFrom 2 = .ok (.aload_n 0, 1) := by decide +kernel
theorem dX1_reachedFrom_3 : decode cX1_reachedFrom 3 = .ok (.iload_n 1, 1) := by decide +kernel
theorem dX1_reachedFrom_4 : decode cX1_reachedFrom 4 = .ok (.invokevirtual 86, 3) := by decide +kernel
theorem dX1_reachedFrom_7 : decode cX1_reachedFrom 7 = .ok (.istore_n 3, 1) := by decide +kernel
theorem dX1_reachedFrom_8 : decode cX1_reachedFrom 8 = .ok (.iconst 0, 1) := by decide +kernel
theorem dX1_reachedFrom_9 : decode cX1_reachedFrom 9 = .ok (.istore 4, 2) := by decide +kernel
theorem dX1_reachedFrom_11 : decode cX1_reachedFrom 11 = .ok (.iload 4, 2) := by decide +kernel
theorem dX1_reachedFrom_13 : decode cX1_reachedFrom 13 = .ok (.bipush 8, 2) := by decide +kernel
theorem dX1_reachedFrom_15 : decode cX1_reachedFrom 15 = .ok (.if_icmp .ge 25, 3) := by decide +kernel
theorem dX1_reachedFrom_18 : decode cX1_reachedFrom 18 = .ok (.iload_n 3, 1) := by decide +kernel
theorem dX1_reachedFrom_19 : decode cX1_reachedFrom 19 = .ok (.ifCond .lt 21, 3) := by decide +kernel
theorem dX1_reachedFrom_22 : decode cX1_reachedFrom 22 = .ok (.iload_n 2, 1) := by decide +kernel
theorem dX1_reachedFrom_23 : decode cX1_reachedFrom 23 = .ok (.iconst 1, 1) := by decide +kernel
theorem dX1_reachedFrom_24 : decode cX1_reachedFrom 24 = .ok (.iload_n 3, 1) := by decide +kernel
theorem dX1_reachedFrom_25 : decode cX1_reachedFrom 25 = .ok (.ishl, 1) := by decide +kernel
theorem dX1_reachedFrom_26 : decode cX1_reachedFrom 26 = .ok (.ior, 1) := by decide +kernel
theorem dX1_reachedFrom_27 : decode cX1_reachedFrom 27 = .ok (.istore_n 2, 1) := by decide +kernel
theorem dX1_reachedFrom_28 : decode cX1_reachedFrom 28 = .ok (.aload_n 0, 1) := by decide +kernel
theorem dX1_reachedFrom_29 : decode cX1_reachedFrom 29 = .ok (.iload_n 3, 1) := by decide +kernel
theorem dX1_reachedFrom_30 : decode cX1_reachedFrom 30 = .ok (.invokevirtual 86, 3) := by decide +kernel
theorem dX1_reachedFrom_33 : decode cX1_reachedFrom 33 = .ok (.istore_n 3, 1) := by decide +kernel
theorem dX1_reachedFrom_34 : decode cX1_reachedFrom 34 = .ok (.iinc 4 1, 3) := by decide +kernel
theorem dX1_reachedFrom_37 : decode cX1_reachedFrom 37 = .ok (.goto (-26), 3) := by decide +kernel
theorem dX1_reachedFrom_40 : decode cX1_reachedFrom 40 = .ok (.iload_n 2, 1) := by decide +kernel
theorem dX1_reachedFrom_41 : decode cX1_reachedFrom 41 = .ok (.ireturn, 1) := by decide +kernel
set_option maxRecDepth 20000 in
theorem ggX1_raise_X1_get : GoodIn wsX1_raise wsX1_get := goodIn_r _ [5, 6, 11, 12, 13, 14, 15, 16, 17, 18, 19] (by decide +kernel) (by decide +kernel)
set_option maxRecDepth 20000 in
theorem gX1_raise_X1_get : GoodIn wsX1_raise (wsV RX1 49 RX1 yX1_get wsX1_get) := goodIn_app (goodIn_of _ (by decide +kernel)) ggX1_raise_X1_get
set_option maxRecDepth 20000 in
theorem ggX1_raise_X1_set : GoodIn wsX1_raise wsX1_set := goodIn_r _ [10, 6, 11, 12, 13, 14, 15, 16, 17, 18, 19] (by decide +kernel) (by decide +kernel)
set_option maxRecDepth 20000 in
theorem gX1_raise_X1_set : GoodIn wsX1_raise (wsV RX1 45 RX1 yX1_set wsX1_set) := goodIn_app (goodIn_of _ (by decide +kernel)) ggX1_raise_X1_set
theorem dX1_raise_0 : decode cX1_raise 0 = .ok (.aload_n 0, 1) := by decide +kernel
theorem dX1_raise_1 : decode cX1_raise 1 = .ok (.iload_n 1, 1) := by decide +kernel
theorem dX1_raise_2 : decode cX1_raise 2 = .ok (.iconst 2, 1) := by decide +kernel
theorem dX1_raise_3 : decode cX1_raise 3 = .ok (.aload_n 0, 1) := by decide +kernel
theorem dX1_raise_4 : decode cX1_raise 4 = .ok (.iload_n 1, 1) := by decide +kernel
theorem dX1_raise_5 : decode cX1_raise 5 = .ok (.iconst 2, 1) := by decide +kernel
theorem dX1_raise_6 : decode cX1_raise 6 = .ok (.invokevirtual 49, 3) := by decide +kernel
theorem dX1_raise_9 : decode cX1_raise 9 = .ok (.iload_n 2, 1) := by decide +kernel
theorem dX1_raise_10 : decode cX1_raise 10 = .ok (.iadd, 1) := by decide +kernel
theorem dX1_raise_11 : decode cX1_raise 11 = .ok (.invokevirtual 45, 3) := by decide +kernel
theorem dX1_raise_14 : decode cX1_raise 14 = .ok (.return_, 1) := by decide +kernel
set_option maxRecDepth 20000 in
theorem ggX1_runOver_X1_gutterEnd : GoodIn wsX1_runOver wsX1_gutterEnd := goodIn_r _ [6, 7, 8, 9, 5, 10, 11, 12, 13, 14, 15, 16, 25, 26, 27, 28, 29, 30, 31, 32, 33] (by decide +kernel) (by decide +kernel)
set_option maxRecDepth 20000 in
theorem gX1_runOver_X1_gutterEnd : GoodIn wsX1_runOver (wsV RX1 86 RX1 yX1_gutterEnd wsX1_gutterEnd) := goodIn_app (goodIn_of _ (by decide +kernel)) ggX1_runOver_X1_gutterEnd
set_option maxRecDepth 20000 in
theorem ggX1_runOver_X1_raise : GoodIn wsX1_runOver wsX1_raise := goodIn_r _ [20, 7, 8, 9, 5, 10, 11, 21, 22, 23, 24, 25, 26, 27, 28, 29, 30, 31, 32, 33] (by decide +kernel) (by decide +kernel)
set_option maxRecDepth 20000 in
theorem gX1_runOver_X1_raise : GoodIn wsX1_runOver (wsV RX1 90 RX1 yX1_raise wsX1_raise) := goodIn_app (goodIn_of _ (by decide +kernel)) ggX1_runOver_X1_raise
theorem dX1_runOver_0 : decode cX1_runOver 0 = .ok (.aload_n 0, 1) := by decide +kernel
theorem dX1_runOver_1 : decode cX1_runOver 1 = .ok (.iload_n 1, 1) := by decide +kernel
theorem dX1_runOver_2 : decode cX1_runOver 2 = .ok (.invokevirtual 86, 3) := by decide +kernel
theorem dX1_runOver_5 : decode cX1_runOver 5 = .ok (.istore_n 3, 1) := by decide +kernel
theorem dX1_runOver_6 : decode cX1_runOver 6 = .ok (.aload_n 0, 1) := by decide +kernel
theorem dX1_runOver_7 : decode cX1_runOver 7 = .ok (.iload_n 1, 1) := by decide +kernel
theorem dX1_runOver_8 : decode cX1_runOver 8 = .ok (.iload_n 2, 1) := by decide +kernel
theorem dX1_runOver_9 : decode cX1_runOver 9 = .ok (.ineg, 1) := by decide +kernel
theorem dX1_runOver_10 : decode cX1_runOver 10 = .ok (.invokevirtual 90, 3) := by decide +kernel
theorem dX1_runOver_13 : decode cX1_runOver 13 = .ok (.iload_n 3, 1) := by decide +kernel
theorem dX1_runOver_14 : decode cX1_runOver 14 = .ok (.ifCond .lt 12, 3) := by decide +kernel
theorem dX1_runOver_17 : decode cX1_runOver 17 = .ok (.aload_n 0, 1) := by decide +kernel
theorem dX1_runOver_18 : decode cX1_runOver 18 = .ok (.iload_n 3, 1) := by decide +kernel
theorem dX1_runOver_19 : decode cX1_runOver 19 = .ok (.iload_n 2, 1) := by decide +kernel
theorem dX1_runOver_20 : decode cX1_runOver 20 = .ok (.invokevirtual 90, 3) := by decide +kernel
theorem dX1_runOver_23 : decode cX1_runOver 23 = .ok (.goto 13, 3) := by decide +kernel
theorem dX1_runOver_26 : decode cX1_runOver 26 = .ok (.aload_n 0, 1) := by decide +kernel
theorem dX1_runOver_27 : decode cX1_runOver 27 = .ok (.dup, 1) := by decide +kernel
theorem dX1_runOver_28 : decode cX1_runOver 28 = .ok (.getfield 35, 3) := by decide +kernel
theorem dX1_runOver_31 : decode cX1_runOver 31 = .ok (.iload_n 2, 1) := by decide +kernel
theorem dX1_runOver_32 : decode cX1_runOver 32 = .ok (.iadd, 1) := by decide +kernel
theorem dX1_runOver_33 : decode cX1_runOver 33 = .ok (.putfield 35, 3) := by decide +kernel
theorem dX1_runOver_36 : decode cX1_runOver 36 = .ok (.return_, 1) := by decide +kernel
set_option maxRecDepth 20000 in
theorem ggX1_spill_X1_get : GoodIn wsX1_spill wsX1_get := goodIn_r _ [10, 11, 20, 21, 22, 23, 24, 25, 26, 27, 28] (by decide +kernel) (by decide +kernel)
set_option maxRecDepth 20000 in
theorem gX1_spill_X1_get : GoodIn wsX1_spill (wsV RX1 49 RX1 yX1_get wsX1_get) := goodIn_app (goodIn_of _ (by decide +kernel)) ggX1_spill_X1_get
set_option maxRecDepth 20000 in
theorem ggX1_spill_X1_raise : GoodIn wsX1_spill wsX1_raise := goodIn_r _ [15, 6, 7, 8, 9, 10, 11, 16, 17, 18, 19, 20, 21, 22, 23, 24, 25, 26, 27, 28] (by decide +kernel) (by decide +kernel)
set_option maxRecDepth 20000 in
theorem gX1_spill_X1_raise : GoodIn wsX1_spill (wsV RX1 90 RX1 yX1_raise wsX1_raise) := goodIn_app (goodIn_of _ (by decide +kernel)) ggX1_spill_X1_raise
theorem dX1_spill_0 : decode cX1_spill 0 = .ok (.iconst 0, 1) := by decide +kernel
theorem dX1_spill_1 : decode cX1_spill 1 = .ok (.aload_n 0, 1) := by decide +kernel
theorem dX1_spill_2 : decode cX1_spill 2 = .ok (.iload_n 1, 1) := by decide +kernel
theorem dX1_spill_3 : decode cX1_spill 3 = .ok (.iconst 2, 1) := by decide +kernel
theorem dX1_spill_4 : decode cX1_spill 4 = .ok (.invokevirtual 49, 3) := by decide +kernel
theorem dX1_spill_7 : decode cX1_spill 7 = .ok (.aload_n 0, 1) := by decide +kernel
theorem dX1_spill_8 : decode cX1_spill 8 = .ok (.iload_n 1, 1) := by decide +kernel
theorem dX1_spill_9 : decode cX1_spill 9 = .ok (.iconst 1, 1) := by decide +kernel
theorem dX1_spill_10 : decode cX1_spill 10 = .ok (.invokevirtual 49, 3) := by decide +kernel
theorem dX1_spill_13 : decode cX1_spill 13 = .ok (.isub, 1) := by decide +kernel
theorem dX1_spill_14 : decode cX1_spill 14 = .ok (.invokestatic 53, 3) := by decide +kernel
theorem dX1_spill_17 : decode cX1_spill 17 = .ok (.istore_n 2, 1) := by decide +kernel
theorem dX1_spill_18 : decode cX1_spill 18 = .ok (.aload_n 0, 1) := by decide +kernel
theorem dX1_spill_19 : decode cX1_spill 19 = .ok (.iload_n 1, 1) := by decide +kernel
theorem dX1_spill_20 : decode cX1_spill 20 = .ok (.iload_n 2, 1) := by decide +kernel
theorem dX1_spill_21 : decode cX1_spill 21 = .ok (.ineg, 1) := by decide +kernel
theorem dX1_spill_22 : decode cX1_spill 22 = .ok (.invokevirtual 90, 3) := by decide +kernel
theorem dX1_spill_25 : decode cX1_spill 25 = .ok (.aload_n 0, 1) := by decide +kernel
theorem dX1_spill_26 : decode cX1_spill 26 = .ok (.dup, 1) := by decide +kernel
theorem dX1_spill_27 : decode cX1_spill 27 = .ok (.getfield 35, 3) := by decide +kernel
theorem dX1_spill_30 : decode cX1_spill 30 = .ok (.iload_n 2, 1) := by decide +kernel
theorem dX1_spill_31 : decode cX1_spill 31 = .ok (.iadd, 1) := by decide +kernel
theorem dX1_spill_32 : decode cX1_spill 32 = .ok (.putfield 35, 3) := by decide +kernel
theorem dX1_spill_35 : decode cX1_spill 35 = .ok (.return_, 1) := by decide +kernel
set_option maxRecDepth 20000 in
theorem ggX1_passHour_X1_caught : GoodIn wsX1_passHour wsX1_caught := goodIn_r _ [7, 8, 9, 10, 11, 6, 12, 13, 14, 15, 16, 17, 58, 59, 60, 61, 62, 63, 64, 65, 66] (by decide +kernel) (by decide +kernel)
set_option maxRecDepth 20000 in
theorem gX1_passHour_X1_caught : GoodIn wsX1_passHour (wsV RX1 94 RX1 yX1_caught wsX1_caught) := goodIn_app (goodIn_of _ (by decide +kernel)) ggX1_passHour_X1_caught
set_option maxRecDepth 20000 in
theorem ggX1_passHour_X1_raise : GoodIn wsX1_passHour wsX1_raise := goodIn_r _ [21, 9, 10, 11, 6, 12, 13, 22, 23, 24, 25, 58, 59, 60, 61, 62, 63, 64, 65, 66] (by decide +kernel) (by decide +kernel)
set_option maxRecDepth 20000 in
theorem gX1_passHour_X1_raise : GoodIn wsX1_passHour (wsV RX1 90 RX1 yX1_raise wsX1_raise) := goodIn_app (goodIn_of _ (by decide +kernel)) ggX1_passHour_X1_raise
set_option maxRecDepth 20000 in
theorem ggX1_passHour_X1_runningOver : GoodIn wsX1_passHour wsX1_runningOver := goodIn_r _ [29, 30, 31, 32, 33, 9, 10, 11, 6, 12, 13, 14, 15, 16, 17, 58, 59, 60, 61, 62, 63, 64, 65, 66] (by decide +kernel) (by decide +kernel)
set_option maxRecDepth 20000 in
theorem gX1_passHour_X1_runningOver : GoodIn wsX1_passHour (wsV RX1 98 RX1 yX1_runningOver wsX1_runningOver) := goodIn_app (goodIn_of _ (by decide +kernel)) ggX1_passHour_X1_runningOver
set_option maxRecDepth 20000 in
theorem ggX1_passHour_X1_runOver : GoodIn wsX1_passHour wsX1_runOver := goodIn_r _ [37, 38, 39, 40, 41, 6, 42, 9, 10, 11, 12, 13, 43, 44, 45, 46, 1, 18, 19, 20, 21, 22, 23, 24, 25, 58, 59, 60, 61, 62, 63, 64, 65, 66] (by decide +kernel) (by decide +kernel)
set_option maxRecDepth 20000 in
theorem gX1_passHour_X1_runOver : GoodIn wsX1_passHour (wsV RX1 101 RX1 yX1_runOver wsX1_runOver) := goodIn_app (goodIn_of _ (by decide +kernel)) ggX1_passHour_X1_runOver
set_option maxRecDepth 20000 in
theorem ggX1_passHour_X1_spill : GoodIn wsX1_passHour wsX1_spill := goodIn_r _ [50, 30, 31, 32, 33, 38, 9, 10, 11, 6, 12, 13, 18, 19, 20, 21, 22, 23, 24, 25, 58, 59, 60, 61, 62, 63, 64, 65, 66] (by decide +kernel) (by decide +kernel)
set_option maxRecDepth 20000 in
theorem gX1_passHour_X1_spill : GoodIn wsX1_passHour (wsV RX1 104 RX1 yX1_spill wsX1_spill) := goodIn_app (goodIn_of _ (by decide +kernel)) ggX1_passHour_X1_spill
set_option maxRecDepth 20000 in
theorem ggX1_passHour_X1_leaked : GoodIn wsX1_passHour wsX1_leaked := goodIn_r _ [54, 8, 55, 56, 32, 57, 14, 15, 16, 6, 17, 9, 10, 11, 12, 13, 58, 59, 60, 61, 62, 63, 64, 65, 66] (by decide +kernel) (by decide +kernel)
set_option maxRecDepth 20000 in
theorem gX1_passHour_X1_leaked : GoodIn wsX1_passHour (wsV RX1 108 RX1 yX1_leaked wsX1_leaked) := goodIn_app (goodIn_of _ (by decide +kernel)) ggX1_passHour_X1_leaked
theorem dX1_passHour_0 : decode cX1_passHour 0 = .ok (.iconst 0, 1) := by decide +kernel
theorem dX1_passHour_1 : decode cX1_passHour 1 = .ok (.istore_n 3, 1) := by decide +kernel
theorem dX1_passHour_2 : decode cX1_passHour 2 = .ok (.iload_n 3, 1) := by decide +kernel
theorem dX1_passHour_3 : decode cX1_passHour 3 = .ok (.aload_n 0, 1) := by decide +kernel
theorem dX1_passHour_4 : decode cX1_passHour 4 = .ok (.getfield 21, 3) := by decide +kernel
theorem dX1_passHour_7 : decode cX1_passHour 7 = .ok (.if_icmp .ge 21, 3) := by decide +kernel
theorem dX1_passHour_10 : decode cX1_passHour 10 = .ok (.aload_n 0, 1) := by decide +kernel
theorem dX1_passHour_11 : decode cX1_passHour 11 = .ok (.iload_n 3, 1) := by decide +kernel
theorem dX1_passHour_12 : decode cX1_passHour 12 = .ok (.aload_n 0, 1) := by decide +kernel
theorem dX1_passHour_13 : decode cX1_passHour 13 = .ok (.iload_n 3, 1) := by decide +kernel
theorem dX1_passHour_14 : decode cX1_passHour 14 = .ok (.iload_n 1, 1) := by decide +kernel
theorem dX1_passHour_15 : decode cX1_passHour 15 = .ok (.iload_n 2, 1) := by decide +kernel
theorem dX1_passHour_16 : decode cX1_passHour 16 = .ok (.invokevirtual 94, 3) := by decide +kernel
theorem dX1_passHour_19 : decode cX1_passHour 19 = .ok (.invokevirtual 90, 3) := by decide +kernel
theorem dX1_passHour_22 : decode cX1_passHour 22 = .ok (.iinc 3 1, 3) := by decide +kernel
theorem dX1_passHour_25 : decode cX1_passHour 25 = .ok (.goto (-23), 3) := by decide +kernel
theorem dX1_passHour_28 : decode cX1_passHour 28 = .ok (.iconst 0, 1) := by decide +kernel
theorem dX1_passHour_29 : decode cX1_passHour 29 = .ok (.istore_n 3, 1) := by decide +kernel
theorem dX1_passHour_30 : decode cX1_passHour 30 = .ok (.iload_n 3, 1) := by decide +kernel
theorem dX1_passHour_31 : decode cX1_passHour 31 = .ok (.aload_n 0, 1) := by decide +kernel
theorem dX1_passHour_32 : decode cX1_passHour 32 = .ok (.getfield 21, 3) := by decide +kernel
theorem dX1_passHour_35 : decode cX1_passHour 35 = .ok (.if_icmp .ge 19, 3) := by decide +kernel
theorem dX1_passHour_38 : decode cX1_passHour 38 = .ok (.aload_n 0, 1) := by decide +kernel
theorem dX1_passHour_39 : decode cX1_passHour 39 = .ok (.iload_n 3, 1) := by decide +kernel
theorem dX1_passHour_40 : decode cX1_passHour 40 = .ok (.aload_n 0, 1) := by decide +kernel
theorem dX1_passHour_41 : decode cX1_passHour 41 = .ok (.iload_n 3, 1) := by decide +kernel
theorem dX1_passHour_42 : decode cX1_passHour 42 = .ok (.invokevirtual 98, 3) := by decide +kernel
theorem dX1_passHour_45 : decode cX1_passHour 45 = .ok (.invokevirtual 101, 3) := by decide +kernel
theorem dX1_passHour_48 : decode cX1_passHour 48 = .ok (.iinc 3 1, 3) := by decide +kernel
theorem dX1_passHour_51 : decode cX1_passHour 51 = .ok (.goto (-21), 3) := by decide +kernel
theorem dX1_passHour_54 : decode cX1_passHour 54 = .ok (.iconst 0, 1) := by decide +kernel
theorem dX1_passHour_55 : decode cX1_passHour 55 = .ok (.istore_n 3, 1) := by decide +kernel
theorem dX1_passHour_56 : decode cX1_passHour 56 = .ok (.iload_n 3, 1) := by decide +kernel
theorem dX1_passHour_57 : decode cX1_passHour 57 = .ok (.aload_n 0, 1) := by decide +kernel
theorem dX1_passHour_58 : decode cX1_passHour 58 = .ok (.getfield 21, 3) := by decide +kernel
theorem dX1_passHour_61 : decode cX1_passHour 61 = .ok (.if_icmp .ge 14, 3) := by decide +kernel
theorem dX1_passHour_64 : decode cX1_passHour 64 = .ok (.aload_n 0, 1) := by decide +kernel
theorem dX1_passHour_65 : decode cX1_passHour 65 = .ok (.iload_n 3, 1) := by decide +kernel
theorem dX1_passHour_66 : decode cX1_passHour 66 = .ok (.invokevirtual 104, 3) := by decide +kernel
theorem dX1_passHour_69 : decode cX1_passHour 69 = .ok (.iinc 3 1, 3) := by decide +kernel
theorem dX1_passHour_72 : decode cX1_passHour 72 = .ok (.goto (-16), 3) := by decide +kernel
theorem dX1_passHour_75 : decode cX1_passHour 75 = .ok (.iconst 0, 1) := by decide +kernel
theorem dX1_passHour_76 : decode cX1_passHour 76 = .ok (.istore_n 3, 1) := by decide +kernel
theorem dX1_passHour_77 : decode cX1_passHour 77 = .ok (.iload_n 3, 1) := by decide +kernel
theorem dX1_passHour_78 : decode cX1_passHour 78 = .ok (.aload_n 0, 1) := by decide +kernel
theorem dX1_passHour_79 : decode cX1_passHour 79 = .ok (.getfield 21, 3) := by decide +kernel
theorem dX1_passHour_82 : decode cX1_passHour 82 = .ok (.if_icmp .ge 20, 3) := by decide +kernel
theorem dX1_passHour_85 : decode cX1_passHour 85 = .ok (.aload_n 0, 1) := by decide +kernel
theorem dX1_passHour_86 : decode cX1_passHour 86 = .ok (.iload_n 3, 1) := by decide +kernel
theorem dX1_passHour_87 : decode cX1_passHour 87 = .ok (.aload_n 0, 1) := by decide +kernel
theorem dX1_passHour_88 : decode cX1_passHour 88 = .ok (.iload_n 3, 1) := by decide +kernel
theorem dX1_passHour_89 : decode cX1_passHour 89 = .ok (.invokevirtual 108, 3) := by decide +kernel
theorem dX1_passHour_92 : decode cX1_passHour 92 = .ok (.ineg, 1) := by decide +kernel
theorem dX1_passHour_93 : decode cX1_passHour 93 = .ok (.invokevirtual 90, 3) := by decide +kernel
theorem dX1_passHour_96 : decode cX1_passHour 96 = .ok (.iinc 3 1, 3) := by decide +kernel
theorem dX1_passHour_99 : decode cX1_passHour 99 = .ok (.goto (-22), 3) := by decide +kernel
theorem dX1_passHour_102 : decode cX1_passHour 102 = .ok (.aload_n 0, 1) := by decide +kernel
theorem dX1_passHour_103 : decode cX1_passHour 103 = .ok (.dup, 1) := by decide +kernel
theorem dX1_passHour_104 : decode cX1_passHour 104 = .ok (.getfield 32, 3) := by decide +kernel
theorem dX1_passHour_107 : decode cX1_passHour 107 = .ok (.iconst 1, 1) := by decide +kernel
theorem dX1_passHour_108 : decode cX1_passHour 108 = .ok (.iadd, 1) := by decide +kernel
theorem dX1_passHour_109 : decode cX1_passHour 109 = .ok (.putfield 32, 3) := by decide +kernel
theorem dX1_passHour_112 : decode cX1_passHour 112 = .ok (.return_, 1) := by decide +kernel
set_option maxRecDepth 20000 in
theorem ggX1_passHours_X1_passHour : GoodIn wsX1_passHours wsX1_passHour := goodIn_r _ [5, 6, 7, 8, 9, 10, 4, 11, 12, 13, 14, 15, 16, 17, 18, 19, 20, 21, 22, 23, 24, 25, 26, 27, 28, 29, 30, 31, 32, 33, 34, 35, 36, 37, 38, 39, 40, 41, 42, 43, 44, 45, 46, 47, 48, 49, 50, 51, 52, 53, 54, 55, 56, 57, 58, 59, 60, 61, 83, 84, 85, 86, 87, 88, 89, 90, 91] (by decide +kernel) (by decide +kernel)
set_option maxRecDepth 20000 in
theorem gX1_passHours_X1_passHour : GoodIn wsX1_passHours (wsV RX1 111 RX1 yX1_passHour wsX1_passHour) := goodIn_app (goodIn_of _ (by decide +kernel)) ggX1_passHours_X1_passHour
set_option maxRecDepth 20000 in
theorem ggX1_passHours_X1_isOpen : GoodIn wsX1_passHours wsX1_isOpen := goodIn_r _ [65, 66, 67, 68, 69, 4, 70, 71, 72, 73, 74, 75, 76, 77, 78, 47, 48, 49, 50, 6, 79, 80, 81, 82, 13, 14, 15, 16, 17, 18, 19, 20, 21, 83, 84, 85, 86, 87, 88, 89, 90, 91] (by decide +kernel) (by decide +kernel)
set_option maxRecDepth 20000 in
theorem gX1_passHours_X1_isOpen : GoodIn wsX1_passHours (wsV RX1 114 RX1 yX1_isOpen wsX1_isOpen) := goodIn_app (goodIn_of _ (by decide +kernel)) ggX1_passHours_X1_isOpen
theorem dX1_passHours_0 : decode cX1_passHours 0 = .ok (.iconst 0, 1) := by decide +kernel
theorem dX1_passHours_1 : decode cX1_passHours 1 = .ok (.istore 4, 2) := by decide +kernel
theorem dX1_passHours_3 : decode cX1_passHours 3 = .ok (.iconst 0, 1) := by decide +kernel
theorem dX1_passHours_4 : decode cX1_passHours 4 = .ok (.istore 5, 2) := by decide +kernel
theorem dX1_passHours_6 : decode cX1_passHours 6 = .ok (.iload 5, 2) := by decide +kernel
theorem dX1_passHours_8 : decode cX1_passHours 8 = .ok (.iload_n 3, 1) := by decide +kernel
theorem dX1_passHours_9 : decode cX1_passHours 9 = .ok (.if_icmp .ge 25, 3) := by decide +kernel
theorem dX1_passHours_12 : decode cX1_passHours 12 = .ok (.aload_n 0, 1) := by decide +kernel
theorem dX1_passHours_13 : decode cX1_passHours 13 = .ok (.iload_n 1, 1) := by decide +kernel
theorem dX1_passHours_14 : decode cX1_passHours 14 = .ok (.iload_n 2, 1) := by decide +kernel
theorem dX1_passHours_15 : decode cX1_passHours 15 = .ok (.invokevirtual 111, 3) := by decide +kernel
theorem dX1_passHours_18 : decode cX1_passHours 18 = .ok (.aload_n 0, 1) := by decide +kernel
theorem dX1_passHours_19 : decode cX1_passHours 19 = .ok (.invokevirtual 114, 3) := by decide +kernel
theorem dX1_passHours_22 : decode cX1_passHours 22 = .ok (.ifCond .eq 6, 3) := by decide +kernel
theorem dX1_passHours_25 : decode cX1_passHours 25 = .ok (.iinc 4 1, 3) := by decide +kernel
theorem dX1_passHours_28 : decode cX1_passHours 28 = .ok (.iinc 5 1, 3) := by decide +kernel
theorem dX1_passHours_31 : decode cX1_passHours 31 = .ok (.goto (-25), 3) := by decide +kernel
theorem dX1_passHours_34 : decode cX1_passHours 34 = .ok (.iload 4, 2) := by decide +kernel
theorem dX1_passHours_36 : decode cX1_passHours 36 = .ok (.ireturn, 1) := by decide +kernel
set_option maxRecDepth 20000 in
theorem ggX1_passDrawnHour_X1_draw : GoodIn wsX1_passDrawnHour wsX1_draw := goodIn_r _ [5, 6, 7, 71, 72, 73, 74, 75, 76, 77, 78, 79] (by decide +kernel) (by decide +kernel)
set_option maxRecDepth 20000 in
theorem gX1_passDrawnHour_X1_draw : GoodIn wsX1_passDrawnHour (wsV RX1 118 RX1 yX1_draw wsX1_draw) := goodIn_app (goodIn_of _ (by decide +kernel)) ggX1_passDrawnHour_X1_draw
set_option maxRecDepth 20000 in
theorem ggX1_passDrawnHour_X6_sideOf : GoodIn wsX1_passDrawnHour wsX6_sideOf := goodIn_r _ [10] (by decide +kernel) (by decide +kernel)
set_option maxRecDepth 20000 in
theorem gX1_passDrawnHour_X6_sideOf_n122 : GoodIn wsX1_passDrawnHour (wsX6_sideOf) := ggX1_passDrawnHour_X6_sideOf
set_option maxRecDepth 20000 in
theorem ggX1_passDrawnHour_X1_passHour : GoodIn wsX1_passDrawnHour wsX1_passHour := goodIn_r _ [14, 15, 16, 17, 18, 19, 4, 20, 21, 22, 23, 24, 25, 26, 27, 28, 29, 30, 31, 32, 33, 34, 35, 36, 37, 38, 39, 40, 41, 42, 43, 44, 45, 46, 47, 48, 49, 50, 51, 52, 53, 54, 55, 56, 57, 58, 59, 60, 61, 62, 63, 64, 65, 66, 67, 68, 69, 70, 71, 72, 73, 74, 75, 76, 77, 78, 79] (by decide +kernel) (by decide +kernel)
set_option maxRecDepth 20000 in
theorem gX1_passDrawnHour_X1_passHour : GoodIn wsX1_passDrawnHour (wsV RX1 111 RX1 yX1_passHour wsX1_passHour) := goodIn_app (goodIn_of _ (by decide +kernel)) ggX1_passDrawnHour_X1_passHour
theorem dX1_passDrawnHour_0 : decode cX1_passDrawnHour 0 = .ok (.aload_n 0, 1) := by decide +kernel
theorem dX1_passDrawnHour_1 : decode cX1_passDrawnHour 1 = .ok (.invokevirtual 118, 3) := by decide +kernel
theorem dX1_passDrawnHour_4 : decode cX1_passDrawnHour 4 = .ok (.iconst 5, 1) := by decide +kernel
theorem dX1_passDrawnHour_5 : decode cX1_passDrawnHour 5 = .ok (.irem, 1) := by decide +kernel
theorem dX1_passDrawnHour_6 : decode cX1_passDrawnHour 6 = .ok (.istore_n 1, 1) := by decide +kernel
theorem dX1_passDrawnHour_7 : decode cX1_passDrawnHour 7 = .ok (.iload_n 1, 1) := by decide +kernel
theorem dX1_passDrawnHour_8 : decode cX1_passDrawnHour 8 = .ok (.ifCond .ne 7, 3) := by decide +kernel
theorem dX1_passDrawnHour_11 : decode cX1_passDrawnHour 11 = .ok (.iconst 0, 1) := by decide +kernel
theorem dX1_passDrawnHour_12 : decode cX1_passDrawnHour 12 = .ok (.goto 10, 3) := by decide +kernel
theorem dX1_passDrawnHour_15 : decode cX1_passDrawnHour 15 = .ok (.aload_n 0, 1) := by decide +kernel
theorem dX1_passDrawnHour_16 : decode cX1_passDrawnHour 16 = .ok (.invokevirtual 118, 3) := by decide +kernel
theorem dX1_passDrawnHour_19 : decode cX1_passDrawnHour 19 = .ok (.bipush 10, 2) := by decide +kernel
theorem dX1_passDrawnHour_21 : decode cX1_passDrawnHour 21 = .ok (.irem, 1) := by decide +kernel
theorem dX1_passDrawnHour_22 : decode cX1_passDrawnHour 22 = .ok (.istore_n 2, 1) := by decide +kernel
theorem dX1_passDrawnHour_23 : decode cX1_passDrawnHour 23 = .ok (.aload_n 0, 1) := by decide +kernel
theorem dX1_passDrawnHour_24 : decode cX1_passDrawnHour 24 = .ok (.iload_n 1, 1) := by decide +kernel
theorem dX1_passDrawnHour_25 : decode cX1_passDrawnHour 25 = .ok (.invokestatic 122, 3) := by decide +kernel
theorem dX1_passDrawnHour_28 : decode cX1_passDrawnHour 28 = .ok (.iload_n 2, 1) := by decide +kernel
theorem dX1_passDrawnHour_29 : decode cX1_passDrawnHour 29 = .ok (.invokevirtual 111, 3) := by decide +kernel
theorem dX1_passDrawnHour_32 : decode cX1_passDrawnHour 32 = .ok (.return_, 1) := by decide +kernel
theorem dX1_draw_0 : decode cX1_draw 0 = .ok (.aload_n 0, 1) := by decide +kernel
theorem dX1_draw_1 : decode cX1_draw 1 = .ok (.aload_n 0, 1) := by decide +kernel
theorem dX1_draw_2 : decode cX1_draw 2 = .ok (.getfield 38, 3) := by decide +kernel
theorem dX1_draw_5 : decode cX1_draw 5 = .ok (.ldc 125, 2) := by decide +kernel
theorem dX1_draw_7 : decode cX1_draw 7 = .ok (.imul, 1) := by decide +kernel
theorem dX1_draw_8 : decode cX1_draw 8 = .ok (.sipush 12345, 3) := by decide +kernel
theorem dX1_draw_11 : decode cX1_draw 11 = .ok (.iadd, 1) := by decide +kernel
theorem dX1_draw_12 : decode cX1_draw 12 = .ok (.putfield 38, 3) := by decide +kernel
theorem dX1_draw_15 : decode cX1_draw 15 = .ok (.aload_n 0, 1) := by decide +kernel
theorem dX1_draw_16 : decode cX1_draw 16 = .ok (.getfield 38, 3) := by decide +kernel
theorem dX1_draw_19 : decode cX1_draw 19 = .ok (.bipush 8, 2) := by decide +kernel
theorem dX1_draw_21 : decode cX1_draw 21 = .ok (.iushr, 1) := by decide +kernel
theorem dX1_draw_22 : decode cX1_draw 22 = .ok (.ireturn, 1) := by decide +kernel
set_option maxRecDepth 20000 in
theorem ggX1_coverJust_X1_set : GoodIn wsX1_coverJust wsX1_set := goodIn_r _ [6, 7, 8, 9, 10, 11, 12, 13, 14, 15, 16] (by decide +kernel) (by decide +kernel)
set_option maxRecDepth 20000 in
theorem gX1_coverJust_X1_set : GoodIn wsX1_coverJust (wsV RX1 45 RX1 yX1_set wsX1_set) := goodIn_app (goodIn_of _ (by decide +kernel)) ggX1_coverJust_X1_set
theorem dX1_coverJust_0 : decode cX1_coverJust 0 = .ok (.iconst 0, 1) := by decide +kernel
theorem dX1_coverJust_1 : decode cX1_coverJust 1 = .ok (.istore_n 2, 1) := by decide +kernel
theorem dX1_coverJust_2 : decode cX1_coverJust 2 = .ok (.iload_n 2, 1) := by decide +kernel
theorem dX1_coverJust_3 : decode cX1_coverJust 3 = .ok (.aload_n 0, 1) := by decide +kernel
theorem dX1_coverJust_4 : decode cX1_coverJust 4 = .ok (.getfield 21, 3) := by decide +kernel
theorem dX1_coverJust_7 : decode cX1_coverJust 7 = .ok (.if_icmp .ge 20, 3) := by decide +kernel
theorem dX1_coverJust_10 : decode cX1_coverJust 10 = .ok (.aload_n 0, 1) := by decide +kernel
theorem dX1_coverJust_11 : decode cX1_coverJust 11 = .ok (.iload_n 2, 1) := by decide +kernel
theorem dX1_coverJust_12 : decode cX1_coverJust 12 = .ok (.iconst 5, 1) := by decide +kernel
theorem dX1_coverJust_13 : decode cX1_coverJust 13 = .ok (.iload_n 1, 1) := by decide +kernel
theorem dX1_coverJust_14 : decode cX1_coverJust 14 = .ok (.iload_n 2, 1) := by decide +kernel
theorem dX1_coverJust_15 : decode cX1_coverJust 15 = .ok (.ishr, 1) := by decide +kernel
theorem dX1_coverJust_16 : decode cX1_coverJust 16 = .ok (.iconst 1, 1) := by decide +kernel
theorem dX1_coverJust_17 : decode cX1_coverJust 17 = .ok (.iand, 1) := by decide +kernel
theorem dX1_coverJust_18 : decode cX1_coverJust 18 = .ok (.invokevirtual 45, 3) := by decide +kernel
theorem dX1_coverJust_21 : decode cX1_coverJust 21 = .ok (.iinc 2 1, 3) := by decide +kernel
theorem dX1_coverJust_24 : decode cX1_coverJust 24 = .ok (.goto (-22), 3) := by decide +kernel
theorem dX1_coverJust_27 : decode cX1_coverJust 27 = .ok (.return_, 1) := by decide +kernel
set_option maxRecDepth 20000 in
theorem ggX1_levelsTogether_X1_get : GoodIn wsX1_levelsTogether wsX1_get := goodIn_r _ [6, 7, 8, 9, 10, 11, 12, 13, 14, 15, 16] (by decide +kernel) (by decide +kernel)
set_option maxRecDepth 20000 in
theorem gX1_levelsTogether_X1_get : GoodIn wsX1_levelsTogether (wsV RX1 49 RX1 yX1_get wsX1_get) := goodIn_app (goodIn_of _ (by decide +kernel)) ggX1_levelsTogether_X1_get
theorem dX1_levelsTogether_0 : decode cX1_levelsTogether 0 = .ok (.iconst 0, 1) := by decide +kernel
theorem dX1_levelsTogether_1 : decode cX1_levelsTogether 1 = .ok (.istore_n 1, 1) := by decide +kernel
theorem dX1_levelsTogether_2 : decode cX1_levelsTogether 2 = .ok (.iconst 0, 1) := by decide +kernel
theorem dX1_levelsTogether_3 : decode cX1_levelsTogether 3 = .ok (.istore_n 2, 1) := by decide +kernel
theorem dX1_levelsTogether_4 : decode cX1_levelsTogether 4 = .ok (.iload_n 2, 1) := by decide +kernel
theorem dX1_levelsTogether_5 : decode cX1_levelsTogether 5 = .ok (.aload_n 0, 1) := by decide +kernel
theorem dX1_levelsTogether_6 : decode cX1_levelsTogether 6 = .ok (.getfield 21, 3) := by decide +kernel
theorem dX1_levelsTogether_9 : decode cX1_levelsTogether 9 = .ok (.if_icmp .ge 18, 3) := by decide +kernel
theorem dX1_levelsTogether_12 : decode cX1_levelsTogether 12 = .ok (.iload_n 1, 1) := by decide +kernel
theorem dX1_levelsTogether_13 : decode cX1_levelsTogether 13 = .ok (.aload_n 0, 1) := by decide +kernel
theorem dX1_levelsTogether_14 : decode cX1_levelsTogether 14 = .ok (.iload_n 2, 1) := by decide +kernel
theorem dX1_levelsTogether_15 : decode cX1_levelsTogether 15 = .ok (.iconst 2, 1) := by decide +kernel
theorem dX1_levelsTogether_16 : decode cX1_levelsTogether 16 = .ok (.invokevirtual 49, 3) := by decide +kernel
theorem dX1_levelsTogether_19 : decode cX1_levelsTogether 19 = .ok (.iadd, 1) := by decide +kernel
theorem dX1_levelsTogether_20 : decode cX1_levelsTogether 20 = .ok (.istore_n 1, 1) := by decide +kernel
theorem dX1_levelsTogether_21 : decode cX1_levelsTogether 21 = .ok (.iinc 2 1, 3) := by decide +kernel
theorem dX1_levelsTogether_24 : decode cX1_levelsTogether 24 = .ok (.goto (-20), 3) := by decide +kernel
theorem dX1_levelsTogether_27 : decode cX1_levelsTogether 27 = .ok (.iload_n 1, 1) := by decide +kernel
theorem dX1_levelsTogether_28 : decode cX1_levelsTogether 28 = .ok (.ireturn, 1) := by decide +kernel
set_option maxRecDepth 20000 in
theorem ggX1_keepLevels_X1_get : GoodIn wsX1_keepLevels wsX1_get := goodIn_r _ [6, 7, 11, 12, 13, 14, 15, 16, 17, 18, 19] (by decide +kernel) (by decide +kernel)
set_option maxRecDepth 20000 in
theorem gX1_keepLevels_X1_get : GoodIn wsX1_keepLevels (wsV RX1 49 RX1 yX1_get wsX1_get) := goodIn_app (goodIn_of _ (by decide +kernel)) ggX1_keepLevels_X1_get
set_option maxRecDepth 20000 in
theorem ggX1_keepLevels_X6_put : GoodIn wsX1_keepLevels wsX6_put := goodIn_r _ [10] (by decide +kernel) (by decide +kernel)
set_option maxRecDepth 20000 in
theorem gX1_keepLevels_X6_put_n126 : GoodIn wsX1_keepLevels (wsX6_put) := ggX1_keepLevels_X6_put
theorem dX1_keepLevels_0 : decode cX1_keepLevels 0 = .ok (.iconst 0, 1) := by decide +kernel
theorem dX1_keepLevels_1 : decode cX1_keepLevels 1 = .ok (.istore_n 3, 1) := by decide +kernel
theorem dX1_keepLevels_2 : decode cX1_keepLevels 2 = .ok (.iload_n 3, 1) := by decide +kernel
theorem dX1_keepLevels_3 : decode cX1_keepLevels 3 = .ok (.aload_n 0, 1) := by decide +kernel
theorem dX1_keepLevels_4 : decode cX1_keepLevels 4 = .ok (.getfield 21, 3) := by decide +kernel
theorem dX1_keepLevels_7 : decode cX1_keepLevels 7 = .ok (.if_icmp .ge 22, 3) := by decide +kernel
theorem dX1_keepLevels_10 : decode cX1_keepLevels 10 = .ok (.aload_n 1, 1) := by decide +kernel
theorem dX1_keepLevels_11 : decode cX1_keepLevels 11 = .ok (.iload_n 2, 1) := by decide +kernel
theorem dX1_keepLevels_12 : decode cX1_keepLevels 12 = .ok (.iload_n 3, 1) := by decide +kernel
theorem dX1_keepLevels_13 : decode cX1_keepLevels 13 = .ok (.iadd, 1) := by decide +kernel
theorem dX1_keepLevels_14 : decode cX1_keepLevels 14 = .ok (.aload_n 0, 1) := by decide +kernel
theorem dX1_keepLevels_15 : decode cX1_keepLevels 15 = .ok (.iload_n 3, 1) := by decide +kernel
theorem dX1_keepLevels_16 : decode cX1_keepLevels 16 = .ok (.iconst 2, 1) := by decide +kernel
theorem dX1_keepLevels_17 : decode cX1_keepLevels 17 = .ok (.invokevirtual 49, 3) := by decide +kernel
theorem dX1_keepLevels_20 : decode cX1_keepLevels 20 = .ok (.invokestatic 126, 3) := by decide +kernel
theorem dX1_keepLevels_23 : decode cX1_keepLevels 23 = .ok (.iinc 3 1, 3) := by decide +kernel
theorem dX1_keepLevels_26 : decode cX1_keepLevels 26 = .ok (.goto (-24), 3) := by decide +kernel
theorem dX1_keepLevels_29 : decode cX1_keepLevels 29 = .ok (.return_, 1) := by decide +kernel
set_option maxRecDepth 20000 in
theorem ggX1_takeLevels_X6_at : GoodIn wsX1_takeLevels wsX6_at := goodIn_r _ [4] (by decide +kernel) (by decide +kernel)
set_option maxRecDepth 20000 in
theorem gX1_takeLevels_X6_at_n61 : GoodIn wsX1_takeLevels (wsX6_at) := ggX1_takeLevels_X6_at
set_option maxRecDepth 20000 in
theorem ggX1_takeLevels_X1_set : GoodIn wsX1_takeLevels wsX1_set := goodIn_r _ [9, 10, 11, 12, 13, 14, 15, 16, 17, 18, 19] (by decide +kernel) (by decide +kernel)
set_option maxRecDepth 20000 in
theorem gX1_takeLevels_X1_set : GoodIn wsX1_takeLevels (wsV RX1 45 RX1 yX1_set wsX1_set) := goodIn_app (goodIn_of _ (by decide +kernel)) ggX1_takeLevels_X1_set
theorem dX1_takeLevels_0 : decode cX1_takeLevels 0 = .ok (.iconst 0, 1) := by decide +kernel
theorem dX1_takeLevels_1 : decode cX1_takeLevels 1 = .ok (.istore_n 3, 1) := by decide +kernel
theorem dX1_takeLevels_2 : decode cX1_takeLevels 2 = .ok (.iload_n 3, 1) := by decide +kernel
theorem dX1_takeLevels_3 : decode cX1_takeLevels 3 = .ok (.aload_n 0, 1) := by decide +kernel
theorem dX1_takeLevels_4 : decode cX1_takeLevels 4 = .ok (.getfield 21, 3) := by decide +kernel
theorem dX1_takeLevels_7 : decode cX1_takeLevels 7 = .ok (.if_icmp .ge 22, 3) := by decide +kernel
theorem dX1_takeLevels_10 : decode cX1_takeLevels 10 = .ok (.aload_n 0, 1) := by decide +kernel
theorem dX1_takeLevels_11 : decode cX1_takeLevels 11 = .ok (.iload_n 3, 1) := by decide +kernel
theorem dX1_takeLevels_12 : decode cX1_takeLevels 12 = .ok (.iconst 2, 1) := by decide +kernel
theorem dX1_takeLevels_13 : decode cX1_takeLevels 13 = .ok (.aload_n 1, 1) := by decide +kernel
theorem dX1_takeLevels_14 : decode cX1_takeLevels 14 = .ok (.iload_n 2, 1) := by decide +kernel
theorem dX1_takeLevels_15 : decode cX1_takeLevels 15 = .ok (.iload_n 3, 1) := by decide +kernel
theorem dX1_takeLevels_16 : decode cX1_takeLevels 16 = .ok (.iadd, 1) := by decide +kernel
theorem dX1_takeLevels_17 : decode cX1_takeLevels 17 = .ok (.invokestatic 61, 3) := by decide +kernel
theorem dX1_takeLevels_20 : decode cX1_takeLevels 20 = .ok (.invokevirtual 45, 3) := by decide +kernel
theorem dX1_takeLevels_23 : decode cX1_takeLevels 23 = .ok (.iinc 3 1, 3) := by decide +kernel
theorem dX1_takeLevels_26 : decode cX1_takeLevels 26 = .ok (.goto (-24), 3) := by decide +kernel
theorem dX1_takeLevels_29 : decode cX1_takeLevels 29 = .ok (.return_, 1) := by decide +kernel
set_option maxRecDepth 20000 in
theorem ggX1_addCondition_X1_setCondition : GoodIn wsX1_addCondition wsX1_setCondition := goodIn_r _ [6, 7, 8, 9, 10, 11, 12, 13, 14, 15, 16, 17, 18, 19] (by decide +kernel) (by decide +kernel)
set_option maxRecDepth 20000 in
theorem gX1_addCondition_X1_setCondition : GoodIn wsX1_addCondition (wsV RX1 130 RX1 yX1_setCondition wsX1_setCondition) := goodIn_app (goodIn_of _ (by decide +kernel)) ggX1_addCondition_X1_setCondition
theorem dX1_addCondition_0 : decode cX1_addCondition 0 = .ok (.aload_n 0, 1) := by decide +kernel
theorem dX1_addCondition_1 : decode cX1_addCondition 1 = .ok (.getfield 25, 3) := by decide +kernel
theorem dX1_addCondition_4 : decode cX1_addCondition 4 = .ok (.istore 4, 2) := by decide +kernel
theorem dX1_addCondition_6 : decode cX1_addCondition 6 = .ok (.aload_n 0, 1) := by decide +kernel
theorem dX1_addCondition_7 : decode cX1_addCondition 7 = .ok (.dup, 1) := by decide +kernel
theorem dX1_addCondition_8 : decode cX1_addCondition 8 = .ok (.getfield 25, 3) := by decide +kernel
theorem dX1_addCondition_11 : decode cX1_addCondition 11 = .ok (.iconst 1, 1) := by decide +kernel
theorem dX1_addCondition_12 : decode cX1_addCondition 12 = .ok (.iadd, 1) := by decide +kernel
theorem dX1_addCondition_13 : decode cX1_addCondition 13 = .ok (.putfield 25, 3) := by decide +kernel
theorem dX1_addCondition_16 : decode cX1_addCondition 16 = .ok (.aload_n 0, 1) := by decide +kernel
theorem dX1_addCondition_17 : decode cX1_addCondition 17 = .ok (.iload 4, 2) := by decide +kernel
theorem dX1_addCondition_19 : decode cX1_addCondition 19 = .ok (.iload_n 1, 1) := by decide +kernel
theorem dX1_addCondition_20 : decode cX1_addCondition 20 = .ok (.iload_n 2, 1) := by decide +kernel
theorem dX1_addCondition_21 : decode cX1_addCondition 21 = .ok (.iload_n 3, 1) := by decide +kernel
theorem dX1_addCondition_22 : decode cX1_addCondition 22 = .ok (.invokevirtual 130, 3) := by decide +kernel
theorem dX1_addCondition_25 : decode cX1_addCondition 25 = .ok (.iload 4, 2) := by decide +kernel
theorem dX1_addCondition_27 : decode cX1_addCondition 27 = .ok (.ireturn, 1) := by decide +kernel
set_option maxRecDepth 20000 in
theorem ggX1_removeCondition_X1_conditionFact : GoodIn wsX1_removeCondition wsX1_conditionFact := goodIn_r _ [6, 7, 8, 9, 10, 17, 18, 19, 20, 21, 22, 23, 24, 25] (by decide +kernel) (by decide +kernel)
set_option maxRecDepth 20000 in
theorem gX1_removeCondition_X1_conditionFact : GoodIn wsX1_removeCondition (wsV RX1 134 RX1 yX1_conditionFact wsX1_conditionFact) := goodIn_app (goodIn_of _ (by decide +kernel)) ggX1_removeCondition_X1_conditionFact
set_option maxRecDepth 20000 in
theorem ggX1_removeCondition_X1_setCondition : GoodIn wsX1_removeCondition wsX1_setCondition := goodIn_r _ [14, 7, 15, 9, 16, 17, 18, 19, 20, 21, 22, 23, 24, 25] (by decide +kernel) (by decide +kernel)
set_option maxRecDepth 20000 in
theorem gX1_removeCondition_X1_setCondition : GoodIn wsX1_removeCondition (wsV RX1 130 RX1 yX1_setCondition wsX1_setCondition) := goodIn_app (goodIn_of _ (by decide +kernel)) ggX1_removeCondition_X1_setCondition
theorem dX1_removeCondition_0 : decode cX1_removeCondition 0 = .ok (.aload_n 0, 1) := by decide +kernel
theorem dX1_removeCondition_1 : decode cX1_removeCondition 1 = .ok (.dup, 1) := by decide +kernel
theorem dX1_removeCondition_2 : decode cX1_removeCondition 2 = .ok (.getfield 25, 3) := by decide +kernel
theorem dX1_removeCondition_5 : decode cX1_removeCondition 5 = .ok (.iconst 1, 1) := by decide +kernel
theorem dX1_removeCondition_6 : decode cX1_removeCondition 6 = .ok (.isub, 1) := by decide +kernel
theorem dX1_removeCondition_7 : decode cX1_removeCondition 7 = .ok (.putfield 25, 3) := by decide +kernel
theorem dX1_removeCondition_10 : decode cX1_removeCondition 10 = .ok (.iload_n 1, 1) := by decide +kernel
theorem dX1_removeCondition_11 : decode cX1_removeCondition 11 = .ok (.istore_n 2, 1) := by decide +kernel
theorem dX1_removeCondition_12 : decode cX1_removeCondition 12 = .ok (.iload_n 2, 1) := by decide +kernel
theorem dX1_removeCondition_13 : decode cX1_removeCondition 13 = .ok (.aload_n 0, 1) := by decide +kernel
theorem dX1_removeCondition_14 : decode cX1_removeCondition 14 = .ok (.getfield 25, 3) := by decide +kernel
theorem dX1_removeCondition_17 : decode cX1_removeCondition 17 = .ok (.if_icmp .ge 38, 3) := by decide +kernel
theorem dX1_removeCondition_20 : decode cX1_removeCondition 20 = .ok (.aload_n 0, 1) := by decide +kernel
theorem dX1_removeCondition_21 : decode cX1_removeCondition 21 = .ok (.iload_n 2, 1) := by decide +kernel
theorem dX1_removeCondition_22 : decode cX1_removeCondition 22 = .ok (.aload_n 0, 1) := by decide +kernel
theorem dX1_removeCondition_23 : decode cX1_removeCondition 23 = .ok (.iload_n 2, 1) := by decide +kernel
theorem dX1_removeCondition_24 : decode cX1_removeCondition 24 = .ok (.iconst 1, 1) := by decide +kernel
theorem dX1_removeCondition_25 : decode cX1_removeCondition 25 = .ok (.iadd, 1) := by decide +kernel
theorem dX1_removeCondition_26 : decode cX1_removeCondition 26 = .ok (.iconst 0, 1) := by decide +kernel
theorem dX1_removeCondition_27 : decode cX1_removeCondition 27 = .ok (.invokevirtual 134, 3) := by decide +kernel
theorem dX1_removeCondition_30 : decode cX1_removeCondition 30 = .ok (.aload_n 0, 1) := by decide +kernel
theorem dX1_removeCondition_31 : decode cX1_removeCondition 31 = .ok (.iload_n 2, 1) := by decide +kernel
theorem dX1_removeCondition_32 : decode cX1_removeCondition 32 = .ok (.iconst 1, 1) := by decide +kernel
theorem dX1_removeCondition_33 : decode cX1_removeCondition 33 = .ok (.iadd, 1) := by decide +kernel
theorem dX1_removeCondition_34 : decode cX1_removeCondition 34 = .ok (.iconst 1, 1) := by decide +kernel
theorem dX1_removeCondition_35 : decode cX1_removeCondition 35 = .ok (.invokevirtual 134, 3) := by decide +kernel
theorem dX1_removeCondition_38 : decode cX1_removeCondition 38 = .ok (.aload_n 0, 1) := by decide +kernel
theorem dX1_removeCondition_39 : decode cX1_removeCondition 39 = .ok (.iload_n 2, 1) := by decide +kernel
theorem dX1_removeCondition_40 : decode cX1_removeCondition 40 = .ok (.iconst 1, 1) := by decide +kernel
theorem dX1_removeCondition_41 : decode cX1_removeCondition 41 = .ok (.iadd, 1) := by decide +kernel
theorem dX1_removeCondition_42 : decode cX1_removeCondition 42 = .ok (.iconst 2, 1) := by decide +kernel
theorem dX1_removeCondition_43 : decode cX1_removeCondition 43 = .ok (.invokevirtual 134, 3) := by decide +kernel
theorem dX1_removeCondition_46 : decode cX1_removeCondition 46 = .ok (.invokevirtual 130, 3) := by decide +kernel
theorem dX1_removeCondition_49 : decode cX1_removeCondition 49 = .ok (.iinc 2 1, 3) := by decide +kernel
theorem dX1_removeCondition_52 : decode cX1_removeCondition 52 = .ok (.goto (-40), 3) := by decide +kernel
theorem dX1_removeCondition_55 : decode cX1_removeCondition 55 = .ok (.return_, 1) := by decide +kernel
set_option maxRecDepth 20000 in
theorem ggX1_setCondition_X6_put : GoodIn wsX1_setCondition wsX6_put := goodIn_r _ [4] (by decide +kernel) (by decide +kernel)
set_option maxRecDepth 20000 in
theorem gX1_setCondition_X6_put_n126 : GoodIn wsX1_setCondition (wsX6_put) := ggX1_setCondition_X6_put
theorem dX1_setCondition_0 : decode cX1_setCondition 0 = .ok (.aload_n 0, 1) := by decide +kernel
theorem dX1_setCondition_1 : decode cX1_setCondition 1 = .ok (.getfield 15, 3) := by decide +kernel
theorem dX1_setCondition_4 : decode cX1_setCondition 4 = .ok (.iload_n 1, 1) := by decide +kernel
theorem dX1_setCondition_5 : decode cX1_setCondition 5 = .ok (.iconst 3, 1) := by decide +kernel
theorem dX1_setCondition_6 : decode cX1_setCondition 6 = .ok (.imul, 1) := by decide +kernel
theorem dX1_setCondition_7 : decode cX1_setCondition 7 = .ok (.iconst 0, 1) := by decide +kernel
theorem dX1_setCondition_8 : decode cX1_setCondition 8 = .ok (.iadd, 1) := by decide +kernel
theorem dX1_setCondition_9 : decode cX1_setCondition 9 = .ok (.iload_n 2, 1) := by decide +kernel
theorem dX1_setCondition_10 : decode cX1_setCondition 10 = .ok (.invokestatic 126, 3) := by decide +kernel
theorem dX1_setCondition_13 : decode cX1_setCondition 13 = .ok (.aload_n 0, 1) := by decide +kernel
theorem dX1_setCondition_14 : decode cX1_setCondition 14 = .ok (.getfield 15, 3) := by decide +kernel
theorem dX1_setCondition_17 : decode cX1_setCondition 17 = .ok (.iload_n 1, 1) := by decide +kernel
theorem dX1_setCondition_18 : decode cX1_setCondition 18 = .ok (.iconst 3, 1) := by decide +kernel
theorem dX1_setCondition_19 : decode cX1_setCondition 19 = .ok (.imul, 1) := by decide +kernel
theorem dX1_setCondition_20 : decode cX1_setCondition 20 = .ok (.iconst 1, 1) := by decide +kernel
theorem dX1_setCondition_21 : decode cX1_setCondition 21 = .ok (.iadd, 1) := by decide +kernel
theorem dX1_setCondition_22 : decode cX1_setCondition 22 = .ok (.iload_n 3, 1) := by decide +kernel
theorem dX1_setCondition_23 : decode cX1_setCondition 23 = .ok (.invokestatic 126, 3) := by decide +kernel
theorem dX1_setCondition_26 : decode cX1_setCondition 26 = .ok (.aload_n 0, 1) := by decide +kernel
theorem dX1_setCondition_27 : decode cX1_setCondition 27 = .ok (.getfield 15, 3) := by decide +kernel
theorem dX1_setCondition_30 : decode cX1_setCondition 30 = .ok (.iload_n 1, 1) := by decide +kernel
theorem dX1_setCondition_31 : decode cX1_setCondition 31 = .ok (.iconst 3, 1) := by decide +kernel
theorem dX1_setCondition_32 : decode cX1_setCondition 32 = .ok (.imul, 1) := by decide +kernel
theorem dX1_setCondition_33 : decode cX1_setCondition 33 = .ok (.iconst 2, 1) := by decide +kernel
theorem dX1_setCondition_34 : decode cX1_setCondition 34 = .ok (.iadd, 1) := by decide +kernel
theorem dX1_setCondition_35 : decode cX1_setCondition 35 = .ok (.iload 4, 2) := by decide +kernel
theorem dX1_setCondition_37 : decode cX1_setCondition 37 = .ok (.invokestatic 126, 3) := by decide +kernel
theorem dX1_setCondition_40 : decode cX1_setCondition 40 = .ok (.return_, 1) := by decide +kernel
set_option maxRecDepth 20000 in
theorem ggX1_conditionFact_X6_at : GoodIn wsX1_conditionFact wsX6_at := goodIn_r _ [4] (by decide +kernel) (by decide +kernel)
set_option maxRecDepth 20000 in
theorem gX1_conditionFact_X6_at_n61 : GoodIn wsX1_conditionFact (wsX6_at) := ggX1_conditionFact_X6_at
theorem dX1_conditionFact_0 : decode cX1_conditionFact 0 = .ok (.aload_n 0, 1) := by decide +kernel
theorem dX1_conditionFact_1 : decode cX1_conditionFact 1 = .ok (.getfield 15, 3) := by decide +kernel
theorem dX1_conditionFact_4 : decode cX1_conditionFact 4 = .ok (.iload_n 1, 1) := by decide +kernel
theorem dX1_conditionFact_5 : decode cX1_conditionFact 5 = .ok (.iconst 3, 1) := by decide +kernel
theorem dX1_conditionFact_6 : decode cX1_conditionFact 6 = .ok (.imul, 1) := by decide +kernel
theorem dX1_conditionFact_7 : decode cX1_conditionFact 7 = .ok (.iload_n 2, 1) := by decide +kernel
theorem dX1_conditionFact_8 : decode cX1_conditionFact 8 = .ok (.iadd, 1) := by decide +kernel
theorem dX1_conditionFact_9 : decode cX1_conditionFact 9 = .ok (.invokestatic 61, 3) := by decide +kernel
theorem dX1_conditionFact_12 : decode cX1_conditionFact 12 = .ok (.ireturn, 1) := by decide +kernel
set_option maxRecDepth 20000 in
theorem ggX1_holds_X1_conditionFact : GoodIn wsX1_holds wsX1_conditionFact := goodIn_r _ [5, 6, 7, 8, 9, 28, 29, 30, 31, 32, 33, 34, 35, 36] (by decide +kernel) (by decide +kernel)
set_option maxRecDepth 20000 in
theorem gX1_holds_X1_conditionFact : GoodIn wsX1_holds (wsV RX1 134 RX1 yX1_conditionFact wsX1_conditionFact) := goodIn_app (goodIn_of _ (by decide +kernel)) ggX1_holds_X1_conditionFact
set_option maxRecDepth 20000 in
theorem ggX1_holds_X1_hasCistern : GoodIn wsX1_holds wsX1_hasCistern := goodIn_r _ [13, 14, 28, 29, 30, 31, 32, 33, 34, 35, 36] (by decide +kernel) (by decide +kernel)
set_option maxRecDepth 20000 in
theorem gX1_holds_X1_hasCistern : GoodIn wsX1_holds (wsV RX1 82 RX1 yX1_hasCistern wsX1_hasCistern) := goodIn_app (goodIn_of _ (by decide +kernel)) ggX1_holds_X1_hasCistern
set_option maxRecDepth 20000 in
theorem ggX1_holds_X1_shown : GoodIn wsX1_holds wsX1_shown := goodIn_r _ [18, 19, 20, 21, 4, 22, 23, 24, 25, 26, 27, 28, 29, 30, 31, 32, 33, 34, 35, 36] (by decide +kernel) (by decide +kernel)
set_option maxRecDepth 20000 in
theorem gX1_holds_X1_shown : GoodIn wsX1_holds (wsV RX1 137 RX1 yX1_shown wsX1_shown) := goodIn_app (goodIn_of _ (by decide +kernel)) ggX1_holds_X1_shown
set_option maxRecDepth 20000 in
theorem ggX1_holds_X1_get : GoodIn wsX1_holds wsX1_get := goodIn_r _ [22, 23, 28, 29, 30, 31, 32, 33, 34, 35, 36] (by decide +kernel) (by decide +kernel)
set_option maxRecDepth 20000 in
theorem gX1_holds_X1_get : GoodIn wsX1_holds (wsV RX1 49 RX1 yX1_get wsX1_get) := goodIn_app (goodIn_of _ (by decide +kernel)) ggX1_holds_X1_get
theorem dX1_holds_0 : decode cX1_holds 0 = .ok (.aload_n 0, 1) := by decide +kernel
theorem dX1_holds_1 : decode cX1_holds 1 = .ok (.iload_n 1, 1) := by decide +kernel
theorem dX1_holds_2 : decode cX1_holds 2 = .ok (.iconst 1, 1) := by decide +kernel
theorem dX1_holds_3 : decode cX1_holds 3 = .ok (.invokevirtual 134, 3) := by decide +kernel
theorem dX1_holds_6 : decode cX1_holds 6 = .ok (.istore_n 2, 1) := by decide +kernel
theorem dX1_holds_7 : decode cX1_holds 7 = .ok (.aload_n 0, 1) := by decide +kernel
theorem dX1_holds_8 : decode cX1_holds 8 = .ok (.iload_n 1, 1) := by decide +kernel
theorem dX1_holds_9 : decode cX1_holds 9 = .ok (.iconst 2, 1) := by decide +kernel
theorem dX1_holds_10 : decode cX1_holds 10 = .ok (.invokevirtual 134, 3) := by decide +kernel
theorem dX1_holds_13 : decode cX1_holds 13 = .ok (.istore_n 3, 1) := by decide +kernel
theorem dX1_holds_14 : decode cX1_holds 14 = .ok (.aload_n 0, 1) := by decide +kernel
theorem dX1_holds_15 : decode cX1_holds 15 = .ok (.iload_n 2, 1) := by decide +kernel
theorem dX1_holds_16 : decode cX1_holds 16 = .ok (.invokevirtual 82, 3) := by decide +kernel
theorem dX1_holds_19 : decode cX1_holds 19 = .ok (.ifCond .ne 5, 3) := by decide +kernel
theorem dX1_holds_22 : decode cX1_holds 22 = .ok (.iconst 0, 1) := by decide +kernel
theorem dX1_holds_23 : decode cX1_holds 23 = .ok (.ireturn, 1) := by decide +kernel
theorem dX1_holds_24 : decode cX1_holds 24 = .ok (.aload_n 0, 1) := by decide +kernel
theorem dX1_holds_25 : decode cX1_holds 25 = .ok (.iload_n 1, 1) := by decide +kernel
theorem dX1_holds_26 : decode cX1_holds 26 = .ok (.iconst 0, 1) := by decide +kernel
theorem dX1_holds_27 : decode cX1_holds 27 = .ok (.invokevirtual 134, 3) := by decide +kernel
theorem dX1_holds_30 : decode cX1_holds 30 = .ok (.tableswitch 118 0 3 #[30, 57, 84, 98], 30) := by decide +kernel
theorem dX1_holds_60 : decode cX1_holds 60 = .ok (.aload_n 0, 1) := by decide +kernel
theorem dX1_holds_61 : decode cX1_holds 61 = .ok (.iload_n 3, 1) := by decide +kernel
theorem dX1_holds_62 : decode cX1_holds 62 = .ok (.invokevirtual 82, 3) := by decide +kernel
theorem dX1_holds_65 : decode cX1_holds 65 = .ok (.ifCond .eq 20, 3) := by decide +kernel
theorem dX1_holds_68 : decode cX1_holds 68 = .ok (.aload_n 0, 1) := by decide +kernel
theorem dX1_holds_69 : decode cX1_holds 69 = .ok (.iload_n 2, 1) := by decide +kernel
theorem dX1_holds_70 : decode cX1_holds 70 = .ok (.invokevirtual 137, 3) := by decide +kernel
theorem dX1_holds_73 : decode cX1_holds 73 = .ok (.aload_n 0, 1) := by decide +kernel
theorem dX1_holds_74 : decode cX1_holds 74 = .ok (.iload_n 3, 1) := by decide +kernel
theorem dX1_holds_75 : decode cX1_holds 75 = .ok (.invokevirtual 137, 3) := by decide +kernel
theorem dX1_holds_78 : decode cX1_holds 78 = .ok (.if_icmp .le 7, 3) := by decide +kernel
theorem dX1_holds_81 : decode cX1_holds 81 = .ok (.iconst 1, 1) := by decide +kernel
theorem dX1_holds_82 : decode cX1_holds 82 = .ok (.goto 4, 3) := by decide +kernel
theorem dX1_holds_85 : decode cX1_holds 85 = .ok (.iconst 0, 1) := by decide +kernel
theorem dX1_holds_86 : decode cX1_holds 86 = .ok (.ireturn, 1) := by decide +kernel
theorem dX1_holds_87 : decode cX1_holds 87 = .ok (.aload_n 0, 1) := by decide +kernel
theorem dX1_holds_88 : decode cX1_holds 88 = .ok (.iload_n 3, 1) := by decide +kernel
theorem dX1_holds_89 : decode cX1_holds 89 = .ok (.invokevirtual 82, 3) := by decide +kernel
theorem dX1_holds_92 : decode cX1_holds 92 = .ok (.ifCond .eq 20, 3) := by decide +kernel
theorem dX1_holds_95 : decode cX1_holds 95 = .ok (.aload_n 0, 1) := by decide +kernel
theorem dX1_holds_96 : decode cX1_holds 96 = .ok (.iload_n 2, 1) := by decide +kernel
theorem dX1_holds_97 : decode cX1_holds 97 = .ok (.invokevirtual 137, 3) := by decide +kernel
theorem dX1_holds_100 : decode cX1_holds 100 = .ok (.aload_n 0, 1) := by decide +kernel
theorem dX1_holds_101 : decode cX1_holds 101 = .ok (.iload_n 3, 1) := by decide +kernel
theorem dX1_holds_102 : decode cX1_holds 102 = .ok (.invokevirtual 137, 3) := by decide +kernel
theorem dX1_holds_105 : decode cX1_holds 105 = .ok (.if_icmp .ne 7, 3) := by decide +kernel
theorem dX1_holds_108 : decode cX1_holds 108 = .ok (.iconst 1, 1) := by decide +kernel
theorem dX1_holds_109 : decode cX1_holds 109 = .ok (.goto 4, 3) := by decide +kernel
theorem dX1_holds_112 : decode cX1_holds 112 = .ok (.iconst 0, 1) := by decide +kernel
theorem dX1_holds_113 : decode cX1_holds 113 = .ok (.ireturn, 1) := by decide +kernel
theorem dX1_holds_114 : decode cX1_holds 114 = .ok (.aload_n 0, 1) := by decide +kernel
theorem dX1_holds_115 : decode cX1_holds 115 = .ok (.iload_n 2, 1) := by decide +kernel
theorem dX1_holds_116 : decode cX1_holds 116 = .ok (.invokevirtual 137, 3) := by decide +kernel
theorem dX1_holds_119 : decode cX1_holds 119 = .ok (.ifCond .ne 7, 3) := by decide +kernel
theorem dX1_holds_122 : decode cX1_holds 122 = .ok (.iconst 1, 1) := by decide +kernel
theorem dX1_holds_123 : decode cX1_holds 123 = .ok (.goto 4, 3) := by decide +kernel
theorem dX1_holds_126 : decode cX1_holds 126 = .ok (.iconst 0, 1) := by decide +kernel
theorem dX1_holds_127 : decode cX1_holds 127 = .ok (.ireturn, 1) := by decide +kernel
theorem dX1_holds_128 : decode cX1_holds 128 = .ok (.aload_n 0, 1) := by decide +kernel
theorem dX1_holds_129 : decode cX1_holds 129 = .ok (.iload_n 2, 1) := by decide +kernel
theorem dX1_holds_130 : decode cX1_holds 130 = .ok (.invokevirtual 137, 3) := by decide +kernel
theorem dX1_holds_133 : decode cX1_holds 133 = .ok (.aload_n 0, 1) := by decide +kernel
theorem dX1_holds_134 : decode cX1_holds 134 = .ok (.iload_n 2, 1) := by decide +kernel
theorem dX1_holds_135 : decode cX1_holds 135 = .ok (.iconst 1, 1) := by decide +kernel
theorem dX1_holds_136 : decode cX1_holds 136 = .ok (.invokevirtual 49, 3) := by decide +kernel
theorem dX1_holds_139 : decode cX1_holds 139 = .ok (.if_icmp .ne 7, 3) := by decide +kernel
theorem dX1_holds_142 : decode cX1_holds 142 = .ok (.iconst 1, 1) := by decide +kernel
theorem dX1_holds_143 : decode cX1_holds 143 = .ok (.goto 4, 3) := by decide +kernel
theorem dX1_holds_146 : decode cX1_holds 146 = .ok (.iconst 0, 1) := by decide +kernel
theorem dX1_holds_147 : decode cX1_holds 147 = .ok (.ireturn, 1) := by decide +kernel
theorem dX1_holds_148 : decode cX1_holds 148 = .ok (.aload_n 0, 1) := by decide +kernel
theorem dX1_holds_149 : decode cX1_holds 149 = .ok (.iload_n 2, 1) := by decide +kernel
theorem dX1_holds_150 : decode cX1_holds 150 = .ok (.invokevirtual 137, 3) := by decide +kernel
theorem dX1_holds_153 : decode cX1_holds 153 = .ok (.iload_n 3, 1) := by decide +kernel
theorem dX1_holds_154 : decode cX1_holds 154 = .ok (.if_icmp .ge 7, 3) := by decide +kernel
theorem dX1_holds_157 : decode cX1_holds 157 = .ok (.iconst 1, 1) := by decide +kernel
theorem dX1_holds_158 : decode cX1_holds 158 = .ok (.goto 4, 3) := by decide +kernel
theorem dX1_holds_161 : decode cX1_holds 161 = .ok (.iconst 0, 1) := by decide +kernel
theorem dX1_holds_162 : decode cX1_holds 162 = .ok (.ireturn, 1) := by decide +kernel
set_option maxRecDepth 20000 in
theorem ggX1_isOpen_X1_holds : GoodIn wsX1_isOpen wsX1_holds := goodIn_r _ [6, 7, 8, 9, 5, 10, 11, 12, 13, 14, 15, 16, 17, 18, 19, 20, 21, 22, 23, 24, 25, 26, 27, 28, 29, 30, 31, 32, 33, 34, 35, 36, 37, 38, 39, 40, 41] (by decide +kernel) (by decide +kernel)
set_option maxRecDepth 20000 in
theorem gX1_isOpen_X1_holds : GoodIn wsX1_isOpen (wsV RX1 140 RX1 yX1_holds wsX1_holds) := goodIn_app (goodIn_of _ (by decide +kernel)) ggX1_isOpen_X1_holds
theorem dX1_isOpen_0 : decode cX1_isOpen 0 = .ok (.iconst 0, 1) := by decide +kernel
theorem dX1_isOpen_1 : decode cX1_isOpen 1 = .ok (.istore_n 1, 1) := by decide +kernel
theorem dX1_isOpen_2 : decode cX1_isOpen 2 = .ok (.iload_n 1, 1) := by decide +kernel
theorem dX1_isOpen_3 : decode cX1_isOpen 3 = .ok (.aload_n 0, 1) := by decide +kernel
theorem dX1_isOpen_4 : decode cX1_isOpen 4 = .ok (.getfield 25, 3) := by decide +kernel
theorem dX1_isOpen_7 : decode cX1_isOpen 7 = .ok (.if_icmp .ge 19, 3) := by decide +kernel
theorem dX1_isOpen_10 : decode cX1_isOpen 10 = .ok (.aload_n 0, 1) := by decide +kernel
theorem dX1_isOpen_11 : decode cX1_isOpen 11 = .ok (.iload_n 1, 1) := by decide +kernel
theorem dX1_isOpen_12 : decode cX1_isOpen 12 = .ok (.invokevirtual 140, 3) := by decide +kernel
theorem dX1_isOpen_15 : decode cX1_isOpen 15 = .ok (.ifCond .ne 5, 3) := by decide +kernel
theorem dX1_isOpen_18 : decode cX1_isOpen 18 = .ok (.iconst 0, 1) := by decide +kernel
theorem dX1_isOpen_19 : decode cX1_isOpen 19 = .ok (.ireturn, 1) := by decide +kernel
theorem dX1_isOpen_20 : decode cX1_isOpen 20 = .ok (.iinc 1 1, 3) := by decide +kernel
theorem dX1_isOpen_23 : decode cX1_isOpen 23 = .ok (.goto (-21), 3) := by decide +kernel
theorem dX1_isOpen_26 : decode cX1_isOpen 26 = .ok (.iconst 1, 1) := by decide +kernel
theorem dX1_isOpen_27 : decode cX1_isOpen 27 = .ok (.ireturn, 1) := by decide +kernel
theorem dX1_spotsInUse_0 : decode cX1_spotsInUse 0 = .ok (.iconst 0, 1) := by decide +kernel
theorem dX1_spotsInUse_1 : decode cX1_spotsInUse 1 = .ok (.istore_n 1, 1) := by decide +kernel
theorem dX1_spotsInUse_2 : decode cX1_spotsInUse 2 = .ok (.iconst 0, 1) := by decide +kernel
theorem dX1_spotsInUse_3 : decode cX1_spotsInUse 3 = .ok (.istore_n 2, 1) := by decide +kernel
theorem dX1_spotsInUse_4 : decode cX1_spotsInUse 4 = .ok (.iload_n 2, 1) := by decide +kernel
theorem dX1_spotsInUse_5 : decode cX1_spotsInUse 5 = .ok (.aload_n 0, 1) := by decide +kernel
theorem dX1_spotsInUse_6 : decode cX1_spotsInUse 6 = .ok (.getfield 18, 3) := by decide +kernel
theorem dX1_spotsInUse_9 : decode cX1_spotsInUse 9 = .ok (.arraylength, 1) := by decide +kernel
theorem dX1_spotsInUse_10 : decode cX1_spotsInUse 10 = .ok (.if_icmp .ge 21, 3) := by decide +kernel
theorem dX1_spotsInUse_13 : decode cX1_spotsInUse 13 = .ok (.aload_n 0, 1) := by decide +kernel
theorem dX1_spotsInUse_14 : decode cX1_spotsInUse 14 = .ok (.getfield 18, 3) := by decide +kernel
theorem dX1_spotsInUse_17 : decode cX1_spotsInUse 17 = .ok (.iload_n 2, 1) := by decide +kernel
theorem dX1_spotsInUse_18 : decode cX1_spotsInUse 18 = .ok (.iaload, 1) := by decide +kernel
theorem dX1_spotsInUse_19 : decode cX1_spotsInUse 19 = .ok (.ifCond .lt 6, 3) := by decide +kernel
theorem dX1_spotsInUse_22 : decode cX1_spotsInUse 22 = .ok (.iinc 1 1, 3) := by decide +kernel
theorem dX1_spotsInUse_25 : decode cX1_spotsInUse 25 = .ok (.iinc 2 1, 3) := by decide +kernel
theorem dX1_spotsInUse_28 : decode cX1_spotsInUse 28 = .ok (.goto (-24), 3) := by decide +kernel
theorem dX1_spotsInUse_31 : decode cX1_spotsInUse 31 = .ok (.iload_n 1, 1) := by decide +kernel
theorem dX1_spotsInUse_32 : decode cX1_spotsInUse 32 = .ok (.ireturn, 1) := by decide +kernel
theorem dX2_init_0 : decode cX2_init 0 = .ok (.aload_n 0, 1) := by decide +kernel
theorem dX2_init_1 : decode cX2_init 1 = .ok (.invokespecial 3, 3) := by decide +kernel
theorem dX2_init_4 : decode cX2_init 4 = .ok (.aload_n 0, 1) := by decide +kernel
theorem dX2_init_5 : decode cX2_init 5 = .ok (.bipush 40, 2) := by decide +kernel
theorem dX2_init_7 : decode cX2_init 7 = .ok (.newarray .int, 2) := by decide +kernel
theorem dX2_init_9 : decode cX2_init 9 = .ok (.putfield 9, 3) := by decide +kernel
theorem dX2_init_12 : decode cX2_init 12 = .ok (.aload_n 0, 1) := by decide +kernel
theorem dX2_init_13 : decode cX2_init 13 = .ok (.iconst 0, 1) := by decide +kernel
theorem dX2_init_14 : decode cX2_init 14 = .ok (.putfield 15, 3) := by decide +kernel
theorem dX2_init_17 : decode cX2_init 17 = .ok (.aload_n 0, 1) := by decide +kernel
theorem dX2_init_18 : decode cX2_init 18 = .ok (.iconst 0, 1) := by decide +kernel
theorem dX2_init_19 : decode cX2_init 19 = .ok (.putfield 19, 3) := by decide +kernel
theorem dX2_init_22 : decode cX2_init 22 = .ok (.return_, 1) := by decide +kernel
theorem dX2_begin_0 : decode cX2_begin 0 = .ok (.aload_n 0, 1) := by decide +kernel
theorem dX2_begin_1 : decode cX2_begin 1 = .ok (.iload_n 1, 1) := by decide +kernel
theorem dX2_begin_2 : decode cX2_begin 2 = .ok (.putfield 15, 3) := by decide +kernel
theorem dX2_begin_5 : decode cX2_begin 5 = .ok (.aload_n 0, 1) := by decide +kernel
theorem dX2_begin_6 : decode cX2_begin 6 = .ok (.iload_n 2, 1) := by decide +kernel
theorem dX2_begin_7 : decode cX2_begin 7 = .ok (.putfield 19, 3) := by decide +kernel
theorem dX2_begin_10 : decode cX2_begin 10 = .ok (.iconst 0, 1) := by decide +kernel
theorem dX2_begin_11 : decode cX2_begin 11 = .ok (.istore_n 3, 1) := by decide +kernel
theorem dX2_begin_12 : decode cX2_begin 12 = .ok (.iload_n 3, 1) := by decide +kernel
theorem dX2_begin_13 : decode cX2_begin 13 = .ok (.aload_n 0, 1) := by decide +kernel
theorem dX2_begin_14 : decode cX2_begin 14 = .ok (.getfield 9, 3) := by decide +kernel
theorem dX2_begin_17 : decode cX2_begin 17 = .ok (.arraylength, 1) := by decide +kernel
theorem dX2_begin_18 : decode cX2_begin 18 = .ok (.if_icmp .ge 16, 3) := by decide +kernel
theorem dX2_begin_21 : decode cX2_begin 21 = .ok (.aload_n 0, 1) := by decide +kernel
theorem dX2_begin_22 : decode cX2_begin 22 = .ok (.getfield 9, 3) := by decide +kernel
theorem dX2_begin_25 : decode cX2_begin 25 = .ok (.iload_n 3, 1) := by decide +kernel
theorem dX2_begin_26 : decode cX2_begin 26 = .ok (.iconst 0, 1) := by decide +kernel
theorem dX2_begin_27 : decode cX2_begin 27 = .ok (.iastore, 1) := by decide +kernel
theorem dX2_begin_28 : decode cX2_begin 28 = .ok (.iinc 3 1, 3) := by decide +kernel
theorem dX2_begin_31 : decode cX2_begin 31 = .ok (.goto (-19), 3) := by decide +kernel
theorem dX2_begin_34 : decode cX2_begin 34 = .ok (.return_, 1) := by decide +kernel
theorem dX2_isMissing_0 : decode cX2_isMissing 0 = .ok (.aload_n 0, 1) := by decide +kernel
theorem dX2_isMissing_1 : decode cX2_isMissing 1 = .ok (.getfield 15, 3) := by decide +kernel
theorem dX2_isMissing_4 : decode cX2_isMissing 4 = .ok (.ifCond .ne 7, 3) := by decide +kernel
theorem dX2_isMissing_7 : decode cX2_isMissing 7 = .ok (.iconst 1, 1) := by decide +kernel
theorem dX2_isMissing_8 : decode cX2_isMissing 8 = .ok (.goto 4, 3) := by decide +kernel
theorem dX2_isMissing_11 : decode cX2_isMissing 11 = .ok (.iconst 0, 1) := by decide +kernel
theorem dX2_isMissing_12 : decode cX2_isMissing 12 = .ok (.ireturn, 1) := by decide +kernel
theorem dX2_hasRange_0 : decode cX2_hasRange 0 = .ok (.aload_n 0, 1) := by decide +kernel
theorem dX2_hasRange_1 : decode cX2_hasRange 1 = .ok (.getfield 19, 3) := by decide +kernel
theorem dX2_hasRange_4 : decode cX2_hasRange 4 = .ok (.aload_n 0, 1) := by decide +kernel
theorem dX2_hasRange_5 : decode cX2_hasRange 5 = .ok (.getfield 9, 3) := by decide +kernel
theorem dX2_hasRange_8 : decode cX2_hasRange 8 = .ok (.arraylength, 1) := by decide +kernel
theorem dX2_hasRange_9 : decode cX2_hasRange 9 = .ok (.invokestatic 22, 3) := by decide +kernel
theorem dX2_hasRange_12 : decode cX2_hasRange 12 = .ok (.istore_n 3, 1) := by decide +kernel
theorem dX2_hasRange_13 : decode cX2_hasRange 13 = .ok (.iload_n 1, 1) := by decide +kernel
theorem dX2_hasRange_14 : decode cX2_hasRange 14 = .ok (.ifCond .lt 23, 3) := by decide +kernel
theorem dX2_hasRange_17 : decode cX2_hasRange 17 = .ok (.iload_n 2, 1) := by decide +kernel
theorem dX2_hasRange_18 : decode cX2_hasRange 18 = .ok (.ifCond .lt 19, 3) := by decide +kernel
theorem dX2_hasRange_21 : decode cX2_hasRange 21 = .ok (.iload_n 1, 1) := by decide +kernel
theorem dX2_hasRange_22 : decode cX2_hasRange 22 = .ok (.iload_n 3, 1) := by decide +kernel
theorem dX2_hasRange_23 : decode cX2_hasRange 23 = .ok (.if_icmp .gt 14, 3) := by decide +kernel
theorem dX2_hasRange_26 : decode cX2_hasRange 26 = .ok (.iload_n 2, 1) := by decide +kernel
theorem dX2_hasRange_27 : decode cX2_hasRange 27 = .ok (.iload_n 3, 1) := by decide +kernel
theorem dX2_hasRange_28 : decode cX2_hasRange 28 = .ok (.iload_n 1, 1) := by decide +kernel
theorem dX2_hasRange_29 : decode cX2_hasRange 29 = .ok (.isub, 1) := by decide +kernel
theorem dX2_hasRange_30 : decode cX2_hasRange 30 = .ok (.if_icmp .gt 7, 3) := by decide +kernel
theorem dX2_hasRange_33 : decode cX2_hasRange 33 = .ok (.iconst 1, 1) := by decide +kernel
theorem dX2_hasRange_34 : decode cX2_hasRange 34 = .ok (.goto 4, 3) := by decide +kernel
theorem dX2_hasRange_37 : decode cX2_hasRange 37 = .ok (.iconst 0, 1) := by decide +kernel
theorem dX2_hasRange_38 : decode cX2_hasRange 38 = .ok (.ireturn, 1) := by decide +kernel
set_option maxRecDepth 20000 in
theorem ggX2_putLowest_X6_put : GoodIn wsX2_putLowest wsX6_put := goodIn_r _ [5] (by decide +kernel) (by decide +kernel)
set_option maxRecDepth 20000 in
theorem gX2_putLowest_X6_put_n28 : GoodIn wsX2_putLowest (wsX6_put) := ggX2_putLowest_X6_put
theorem dX2_putLowest_0 : decode cX2_putLowest 0 = .ok (.aload_n 0, 1) := by decide +kernel
theorem dX2_putLowest_1 : decode cX2_putLowest 1 = .ok (.getfield 15, 3) := by decide +kernel
theorem dX2_putLowest_4 : decode cX2_putLowest 4 = .ok (.bipush 8, 2) := by decide +kernel
theorem dX2_putLowest_6 : decode cX2_putLowest 6 = .ok (.if_icmp .ne 16, 3) := by decide +kernel
theorem dX2_putLowest_9 : decode cX2_putLowest 9 = .ok (.aload_n 0, 1) := by decide +kernel
theorem dX2_putLowest_10 : decode cX2_putLowest 10 = .ok (.getfield 9, 3) := by decide +kernel
theorem dX2_putLowest_13 : decode cX2_putLowest 13 = .ok (.iload_n 1, 1) := by decide +kernel
theorem dX2_putLowest_14 : decode cX2_putLowest 14 = .ok (.iload_n 2, 1) := by decide +kernel
theorem dX2_putLowest_15 : decode cX2_putLowest 15 = .ok (.i2b, 1) := by decide +kernel
theorem dX2_putLowest_16 : decode cX2_putLowest 16 = .ok (.invokestatic 28, 3) := by decide +kernel
theorem dX2_putLowest_19 : decode cX2_putLowest 19 = .ok (.goto 34, 3) := by decide +kernel
theorem dX2_putLowest_22 : decode cX2_putLowest 22 = .ok (.aload_n 0, 1) := by decide +kernel
theorem dX2_putLowest_23 : decode cX2_putLowest 23 = .ok (.getfield 15, 3) := by decide +kernel
theorem dX2_putLowest_26 : decode cX2_putLowest 26 = .ok (.bipush 16, 2) := by decide +kernel
theorem dX2_putLowest_28 : decode cX2_putLowest 28 = .ok (.if_icmp .ne 16, 3) := by decide +kernel
theorem dX2_putLowest_31 : decode cX2_putLowest 31 = .ok (.aload_n 0, 1) := by decide +kernel
theorem dX2_putLowest_32 : decode cX2_putLowest 32 = .ok (.getfield 9, 3) := by decide +kernel
theorem dX2_putLowest_35 : decode cX2_putLowest 35 = .ok (.iload_n 1, 1) := by decide +kernel
theorem dX2_putLowest_36 : decode cX2_putLowest 36 = .ok (.iload_n 2, 1) := by decide +kernel
theorem dX2_putLowest_37 : decode cX2_putLowest 37 = .ok (.i2s, 1) := by decide +kernel
theorem dX2_putLowest_38 : decode cX2_putLowest 38 = .ok (.invokestatic 28, 3) := by decide +kernel
theorem dX2_putLowest_41 : decode cX2_putLowest 41 = .ok (.goto 12, 3) := by decide +kernel
theorem dX2_putLowest_44 : decode cX2_putLowest 44 = .ok (.aload_n 0, 1) := by decide +kernel
theorem dX2_putLowest_45 : decode cX2_putLowest 45 = .ok (.getfield 9, 3) := by decide +kernel
theorem dX2_putLowest_48 : decode cX2_putLowest 48 = .ok (.iload_n 1, 1) := by decide +kernel
theorem dX2_putLowest_49 : decode cX2_putLowest 49 = .ok (.iload_n 2, 1) := by decide +kernel
theorem dX2_putLowest_50 : decode cX2_putLowest 50 = .ok (.invokestatic 28, 3) := by decide +kernel
theorem dX2_putLowest_53 : decode cX2_putLowest 53 = .ok (.return_, 1) := by decide +kernel
theorem dX3_init_0 : decode cX3_init 0 = .ok (.aload_n 0, 1) := by decide +kernel
theorem dX3_init_1 : decode cX3_init 1 = .ok (.invokespecial 3, 3) := by decide +kernel
theorem dX3_init_4 : decode cX3_init 4 = .ok (.aload_n 0, 1) := by decide +kernel
theorem dX3_init_5 : decode cX3_init 5 = .ok (.iconst 5, 1) := by decide +kernel
theorem dX3_init_6 : decode cX3_init 6 = .ok (.newarray .int, 2) := by decide +kernel
theorem dX3_init_8 : decode cX3_init 8 = .ok (.putfield 9, 3) := by decide +kernel
theorem dX3_init_11 : decode cX3_init 11 = .ok (.aload_n 0, 1) := by decide +kernel
theorem dX3_init_12 : decode cX3_init 12 = .ok (.bipush 48, 2) := by decide +kernel
theorem dX3_init_14 : decode cX3_init 14 = .ok (.newarray .int, 2) := by decide +kernel
theorem dX3_init_16 : decode cX3_init 16 = .ok (.putfield 15, 3) := by decide +kernel
theorem dX3_init_19 : decode cX3_init 19 = .ok (.aload_n 0, 1) := by decide +kernel
theorem dX3_init_20 : decode cX3_init 20 = .ok (.iconst 5, 1) := by decide +kernel
theorem dX3_init_21 : decode cX3_init 21 = .ok (.newarray .int, 2) := by decide +kernel
theorem dX3_init_23 : decode cX3_init 23 = .ok (.putfield 18, 3) := by decide +kernel
theorem dX3_init_26 : decode cX3_init 26 = .ok (.aload_n 0, 1) := by decide +kernel
theorem dX3_init_27 : decode cX3_init 27 = .ok (.iconst 0, 1) := by decide +kernel
theorem dX3_init_28 : decode cX3_init 28 = .ok (.putfield 21, 3) := by decide +kernel
theorem dX3_init_31 : decode cX3_init 31 = .ok (.aload_n 0, 1) := by decide +kernel
theorem dX3_init_32 : decode cX3_init 32 = .ok (.iconst 0, 1) := by decide +kernel
theorem dX3_init_33 : decode cX3_init 33 = .ok (.putfield 25, 3) := by decide +kernel
theorem dX3_init_36 : decode cX3_init 36 = .ok (.aload_n 0, 1) := by decide +kernel
theorem dX3_init_37 : decode cX3_init 37 = .ok (.iconst 0, 1) := by decide +kernel
theorem dX3_init_38 : decode cX3_init 38 = .ok (.putfield 28, 3) := by decide +kernel
theorem dX3_init_41 : decode cX3_init 41 = .ok (.aload_n 0, 1) := by decide +kernel
theorem dX3_init_42 : decode cX3_init 42 = .ok (.iconst 0, 1) := by decide +kernel
theorem dX3_init_43 : decode cX3_init 43 = .ok (.putfield 31, 3) := by decide +kernel
theorem dX3_init_46 : decode cX3_init 46 = .ok (.aload_n 0, 1) := by decide +kernel
theorem dX3_init_47 : decode cX3_init 47 = .ok (.aload_n 1, 1) := by decide +kernel
theorem dX3_init_48 : decode cX3_init 48 = .ok (.putfield 34, 3) := by decide +kernel
theorem dX3_init_51 : decode cX3_init 51 = .ok (.return_, 1) := by decide +kernel
set_option maxRecDepth 20000 in
theorem ggX3_begin_X1_become : GoodIn wsX3_begin wsX1_become := goodIn_r _ [8, 9, 10, 11, 12, 13, 14, 15, 16, 17, 18, 19, 20, 21, 22, 23, 24, 25, 26, 27, 28, 47, 48, 49, 50, 51, 52, 53, 54, 55] (by decide +kernel) (by decide +kernel)
set_option maxRecDepth 20000 in
theorem gX3_begin_X1_become : GoodIn wsX3_begin (wsV RX3 38 RX1 yX1_become wsX1_become) := goodIn_app (goodIn_of _ (by decide +kernel)) ggX3_begin_X1_become
set_option maxRecDepth 20000 in
theorem ggX3_begin_X1_keepLevels : GoodIn wsX3_begin wsX1_keepLevels := goodIn_r _ [32, 12, 33, 34, 35, 7, 36, 9, 37, 19, 38, 47, 48, 49, 50, 51, 52, 53, 54, 55] (by decide +kernel) (by decide +kernel)
set_option maxRecDepth 20000 in
theorem gX3_begin_X1_keepLevels : GoodIn wsX3_begin (wsV RX3 44 RX1 yX1_keepLevels wsX1_keepLevels) := goodIn_app (goodIn_of _ (by decide +kernel)) ggX3_begin_X1_keepLevels
theorem dX3_begin_0 : decode cX3_begin 0 = .ok (.aload_n 0, 1) := by decide +kernel
theorem dX3_begin_1 : decode cX3_begin 1 = .ok (.getfield 34, 3) := by decide +kernel
theorem dX3_begin_4 : decode cX3_begin 4 = .ok (.aload_n 1, 1) := by decide +kernel
theorem dX3_begin_5 : decode cX3_begin 5 = .ok (.invokevirtual 38, 3) := by decide +kernel
theorem dX3_begin_8 : decode cX3_begin 8 = .ok (.aload_n 0, 1) := by decide +kernel
theorem dX3_begin_9 : decode cX3_begin 9 = .ok (.iload_n 2, 1) := by decide +kernel
theorem dX3_begin_10 : decode cX3_begin 10 = .ok (.putfield 21, 3) := by decide +kernel
theorem dX3_begin_13 : decode cX3_begin 13 = .ok (.aload_n 0, 1) := by decide +kernel
theorem dX3_begin_14 : decode cX3_begin 14 = .ok (.getfield 34, 3) := by decide +kernel
theorem dX3_begin_17 : decode cX3_begin 17 = .ok (.aload_n 0, 1) := by decide +kernel
theorem dX3_begin_18 : decode cX3_begin 18 = .ok (.getfield 15, 3) := by decide +kernel
theorem dX3_begin_21 : decode cX3_begin 21 = .ok (.iconst 0, 1) := by decide +kernel
theorem dX3_begin_22 : decode cX3_begin 22 = .ok (.invokevirtual 44, 3) := by decide +kernel
theorem dX3_begin_25 : decode cX3_begin 25 = .ok (.return_, 1) := by decide +kernel
theorem dX3_howMany_0 : decode cX3_howMany 0 = .ok (.iconst 1, 1) := by decide +kernel
theorem dX3_howMany_1 : decode cX3_howMany 1 = .ok (.istore_n 1, 1) := by decide +kernel
theorem dX3_howMany_2 : decode cX3_howMany 2 = .ok (.iconst 0, 1) := by decide +kernel
theorem dX3_howMany_3 : decode cX3_howMany 3 = .ok (.istore_n 2, 1) := by decide +kernel
theorem dX3_howMany_4 : decode cX3_howMany 4 = .ok (.iload_n 2, 1) := by decide +kernel
theorem dX3_howMany_5 : decode cX3_howMany 5 = .ok (.aload_n 0, 1) := by decide +kernel
theorem dX3_howMany_6 : decode cX3_howMany 6 = .ok (.getfield 21, 3) := by decide +kernel
theorem dX3_howMany_9 : decode cX3_howMany 9 = .ok (.if_icmp .ge 13, 3) := by decide +kernel
theorem dX3_howMany_12 : decode cX3_howMany 12 = .ok (.iload_n 1, 1) := by decide +kernel
theorem dX3_howMany_13 : decode cX3_howMany 13 = .ok (.iconst 5, 1) := by decide +kernel
theorem dX3_howMany_14 : decode cX3_howMany 14 = .ok (.imul, 1) := by decide +kernel
theorem dX3_howMany_15 : decode cX3_howMany 15 = .ok (.istore_n 1, 1) := by decide +kernel
theorem dX3_howMany_16 : decode cX3_howMany 16 = .ok (.iinc 2 1, 3) := by decide +kernel
theorem dX3_howMany_19 : decode cX3_howMany 19 = .ok (.goto (-15), 3) := by decide +kernel
theorem dX3_howMany_22 : decode cX3_howMany 22 = .ok (.iload_n 1, 1) := by decide +kernel
theorem dX3_howMany_23 : decode cX3_howMany 23 = .ok (.ireturn, 1) := by decide +kernel
set_option maxRecDepth 20000 in
theorem ggX3_passRain_X6_at : GoodIn wsX3_passRain wsX6_at := goodIn_r _ [7] (by decide +kernel) (by decide +kernel)
set_option maxRecDepth 20000 in
theorem gX3_passRain_X6_at_n48 : GoodIn wsX3_passRain (wsX6_at) := ggX3_passRain_X6_at
set_option maxRecDepth 20000 in
theorem ggX3_passRain_X6_put : GoodIn wsX3_passRain wsX6_put := goodIn_r _ [9] (by decide +kernel) (by decide +kernel)
set_option maxRecDepth 20000 in
theorem gX3_passRain_X6_put_n52 : GoodIn wsX3_passRain (wsX6_put) := ggX3_passRain_X6_put
set_option maxRecDepth 20000 in
theorem ggX3_passRain_X1_takeLevels : GoodIn wsX3_passRain wsX1_takeLevels := goodIn_r _ [14, 15, 5, 6, 7, 16, 17, 18, 13, 19, 20, 89, 90, 91, 92, 93, 94, 95, 96, 97] (by decide +kernel) (by decide +kernel)
set_option maxRecDepth 20000 in
theorem gX3_passRain_X1_takeLevels : GoodIn wsX3_passRain (wsV RX3 56 RX1 yX1_takeLevels wsX1_takeLevels) := goodIn_app (goodIn_of _ (by decide +kernel)) ggX3_passRain_X1_takeLevels
set_option maxRecDepth 20000 in
theorem ggX3_passRain_X6_sideOf : GoodIn wsX3_passRain wsX6_sideOf := goodIn_r _ [22] (by decide +kernel) (by decide +kernel)
set_option maxRecDepth 20000 in
theorem gX3_passRain_X6_sideOf_n59 : GoodIn wsX3_passRain (wsX6_sideOf) := ggX3_passRain_X6_sideOf
set_option maxRecDepth 20000 in
theorem ggX3_passRain_X1_passHour : GoodIn wsX3_passRain wsX1_passHour := goodIn_r _ [26, 15, 27, 28, 29, 30, 13, 31, 32, 33, 34, 35, 36, 20, 37, 38, 39, 40, 41, 42, 43, 44, 16, 17, 18, 19, 45, 46, 47, 48, 49, 50, 51, 52, 53, 54, 55, 56, 57, 58, 59, 60, 61, 62, 63, 64, 65, 66, 67, 68, 69, 70, 71, 72, 73, 74, 75, 76, 89, 90, 91, 92, 93, 94, 95, 96, 97] (by decide +kernel) (by decide +kernel)
set_option maxRecDepth 20000 in
theorem gX3_passRain_X1_passHour : GoodIn wsX3_passRain (wsV RX3 63 RX1 yX1_passHour wsX1_passHour) := goodIn_app (goodIn_of _ (by decide +kernel)) ggX3_passRain_X1_passHour
set_option maxRecDepth 20000 in
theorem ggX3_passRain_X1_keepLevels : GoodIn wsX3_passRain wsX1_keepLevels := goodIn_r _ [80, 15, 33, 34, 35, 13, 36, 20, 8, 6, 9, 89, 90, 91, 92, 93, 94, 95, 96, 97] (by decide +kernel) (by decide +kernel)
set_option maxRecDepth 20000 in
theorem gX3_passRain_X1_keepLevels : GoodIn wsX3_passRain (wsV RX3 44 RX1 yX1_keepLevels wsX1_keepLevels) := goodIn_app (goodIn_of _ (by decide +kernel)) ggX3_passRain_X1_keepLevels
theorem dX3_passRain_0 : decode cX3_passRain 0 = .ok (.aload_n 0, 1) := by decide +kernel
theorem dX3_passRain_1 : decode cX3_passRain 1 = .ok (.getfield 21, 3) := by decide +kernel
theorem dX3_passRain_4 : decode cX3_passRain 4 = .ok (.istore_n 2, 1) := by decide +kernel
theorem dX3_passRain_5 : decode cX3_passRain 5 = .ok (.iload_n 1, 1) := by decide +kernel
theorem dX3_passRain_6 : decode cX3_passRain 6 = .ok (.istore_n 3, 1) := by decide +kernel
theorem dX3_passRain_7 : decode cX3_passRain 7 = .ok (.aload_n 0, 1) := by decide +kernel
theorem dX3_passRain_8 : decode cX3_passRain 8 = .ok (.getfield 21, 3) := by decide +kernel
theorem dX3_passRain_11 : decode cX3_passRain 11 = .ok (.iconst 1, 1) := by decide +kernel
theorem dX3_passRain_12 : decode cX3_passRain 12 = .ok (.isub, 1) := by decide +kernel
theorem dX3_passRain_13 : decode cX3_passRain 13 = .ok (.istore 4, 2) := by decide +kernel
theorem dX3_passRain_15 : decode cX3_passRain 15 = .ok (.iload 4, 2) := by decide +kernel
theorem dX3_passRain_17 : decode cX3_passRain 17 = .ok (.ifCond .lt 50, 3) := by decide +kernel
theorem dX3_passRain_20 : decode cX3_passRain 20 = .ok (.iload_n 3, 1) := by decide +kernel
theorem dX3_passRain_21 : decode cX3_passRain 21 = .ok (.iconst 5, 1) := by decide +kernel
theorem dX3_passRain_22 : decode cX3_passRain 22 = .ok (.irem, 1) := by decide +kernel
theorem dX3_passRain_23 : decode cX3_passRain 23 = .ok (.istore 5, 2) := by decide +kernel
theorem dX3_passRain_25 : decode cX3_passRain 25 = .ok (.iload_n 3, 1) := by decide +kernel
theorem dX3_passRain_26 : decode cX3_passRain 26 = .ok (.iconst 5, 1) := by decide +kernel
theorem dX3_passRain_27 : decode cX3_passRain 27 = .ok (.idiv, 1) := by decide +kernel
theorem dX3_passRain_28 : decode cX3_passRain 28 = .ok (.istore_n 3, 1) := by decide +kernel
theorem dX3_passRain_29 : decode cX3_passRain 29 = .ok (.iload_n 1, 1) := by decide +kernel
theorem dX3_passRain_30 : decode cX3_passRain 30 = .ok (.ifCond .eq 17, 3) := by decide +kernel
theorem dX3_passRain_33 : decode cX3_passRain 33 = .ok (.iload 5, 2) := by decide +kernel
theorem dX3_passRain_35 : decode cX3_passRain 35 = .ok (.aload_n 0, 1) := by decide +kernel
theorem dX3_passRain_36 : decode cX3_passRain 36 = .ok (.getfield 9, 3) := by decide +kernel
theorem dX3_passRain_39 : decode cX3_passRain 39 = .ok (.iload 4, 2) := by decide +kernel
theorem dX3_passRain_41 : decode cX3_passRain 41 = .ok (.invokestatic 48, 3) := by decide +kernel
theorem dX3_passRain_44 : decode cX3_passRain 44 = .ok (.if_icmp .eq 17, 3) := by decide +kernel
theorem dX3_passRain_47 : decode cX3_passRain 47 = .ok (.aload_n 0, 1) := by decide +kernel
theorem dX3_passRain_48 : decode cX3_passRain 48 = .ok (.getfield 9, 3) := by decide +kernel
theorem dX3_passRain_51 : decode cX3_passRain 51 = .ok (.iload 4, 2) := by decide +kernel
theorem dX3_passRain_53 : decode cX3_passRain 53 = .ok (.iload 5, 2) := by decide +kernel
theorem dX3_passRain_55 : decode cX3_passRain 55 = .ok (.invokestatic 52, 3) := by decide +kernel
theorem dX3_passRain_58 : decode cX3_passRain 58 = .ok (.iload 4, 2) := by decide +kernel
theorem dX3_passRain_60 : decode cX3_passRain 60 = .ok (.istore_n 2, 1) := by decide +kernel
theorem dX3_passRain_61 : decode cX3_passRain 61 = .ok (.iinc 4 (-1), 3) := by decide +kernel
theorem dX3_passRain_64 : decode cX3_passRain 64 = .ok (.goto (-49), 3) := by decide +kernel
theorem dX3_passRain_67 : decode cX3_passRain 67 = .ok (.aload_n 0, 1) := by decide +kernel
theorem dX3_passRain_68 : decode cX3_passRain 68 = .ok (.getfield 34, 3) := by decide +kernel
theorem dX3_passRain_71 : decode cX3_passRain 71 = .ok (.aload_n 0, 1) := by decide +kernel
theorem dX3_passRain_72 : decode cX3_passRain 72 = .ok (.getfield 15, 3) := by decide +kernel
theorem dX3_passRain_75 : decode cX3_passRain 75 = .ok (.iload_n 2, 1) := by decide +kernel
theorem dX3_passRain_76 : decode cX3_passRain 76 = .ok (.bipush 8, 2) := by decide +kernel
theorem dX3_passRain_78 : decode cX3_passRain 78 = .ok (.imul, 1) := by decide +kernel
theorem dX3_passRain_79 : decode cX3_passRain 79 = .ok (.invokevirtual 56, 3) := by decide +kernel
theorem dX3_passRain_82 : decode cX3_passRain 82 = .ok (.iload_n 2, 1) := by decide +kernel
theorem dX3_passRain_83 : decode cX3_passRain 83 = .ok (.istore 4, 2) := by decide +kernel
theorem dX3_passRain_85 : decode cX3_passRain 85 = .ok (.iload 4, 2) := by decide +kernel
theorem dX3_passRain_87 : decode cX3_passRain 87 = .ok (.aload_n 0, 1) := by decide +kernel
theorem dX3_passRain_88 : decode cX3_passRain 88 = .ok (.getfield 21, 3) := by decide +kernel
theorem dX3_passRain_91 : decode cX3_passRain 91 = .ok (.if_icmp .ge 60, 3) := by decide +kernel
theorem dX3_passRain_94 : decode cX3_passRain 94 = .ok (.aload_n 0, 1) := by decide +kernel
theorem dX3_passRain_95 : decode cX3_passRain 95 = .ok (.getfield 9, 3) := by decide +kernel
theorem dX3_passRain_98 : decode cX3_passRain 98 = .ok (.iload 4, 2) := by decide +kernel
theorem dX3_passRain_100 : decode cX3_passRain 100 = .ok (.invokestatic 48, 3) := by decide +kernel
theorem dX3_passRain_103 : decode cX3_passRain 103 = .ok (.istore 5, 2) := by decide +kernel
theorem dX3_passRain_105 : decode cX3_passRain 105 = .ok (.aload_n 0, 1) := by decide +kernel
theorem dX3_passRain_106 : decode cX3_passRain 106 = .ok (.getfield 34, 3) := by decide +kernel
theorem dX3_passRain_109 : decode cX3_passRain 109 = .ok (.iload 5, 2) := by decide +kernel
theorem dX3_passRain_111 : decode cX3_passRain 111 = .ok (.invokestatic 59, 3) := by decide +kernel
theorem dX3_passRain_114 : decode cX3_passRain 114 = .ok (.iload 5, 2) := by decide +kernel
theorem dX3_passRain_116 : decode cX3_passRain 116 = .ok (.ifCond .ne 7, 3) := by decide +kernel
theorem dX3_passRain_119 : decode cX3_passRain 119 = .ok (.iconst 0, 1) := by decide +kernel
theorem dX3_passRain_120 : decode cX3_passRain 120 = .ok (.goto 4, 3) := by decide +kernel
theorem dX3_passRain_123 : decode cX3_passRain 123 = .ok (.iconst 3, 1) := by decide +kernel
theorem dX3_passRain_124 : decode cX3_passRain 124 = .ok (.invokevirtual 63, 3) := by decide +kernel
theorem dX3_passRain_127 : decode cX3_passRain 127 = .ok (.aload_n 0, 1) := by decide +kernel
theorem dX3_passRain_128 : decode cX3_passRain 128 = .ok (.getfield 34, 3) := by decide +kernel
theorem dX3_passRain_131 : decode cX3_passRain 131 = .ok (.aload_n 0, 1) := by decide +kernel
theorem dX3_passRain_132 : decode cX3_passRain 132 = .ok (.getfield 15, 3) := by decide +kernel
theorem dX3_passRain_135 : decode cX3_passRain 135 = .ok (.iload 4, 2) := by decide +kernel
theorem dX3_passRain_137 : decode cX3_passRain 137 = .ok (.iconst 1, 1) := by decide +kernel
theorem dX3_passRain_138 : decode cX3_passRain 138 = .ok (.iadd, 1) := by decide +kernel
theorem dX3_passRain_139 : decode cX3_passRain 139 = .ok (.bipush 8, 2) := by decide +kernel
theorem dX3_passRain_141 : decode cX3_passRain 141 = .ok (.imul, 1) := by decide +kernel
theorem dX3_passRain_142 : decode cX3_passRain 142 = .ok (.invokevirtual 44, 3) := by decide +kernel
theorem dX3_passRain_145 : decode cX3_passRain 145 = .ok (.iinc 4 1, 3) := by decide +kernel
theorem dX3_passRain_148 : decode cX3_passRain 148 = .ok (.goto (-63), 3) := by decide +kernel
theorem dX3_passRain_151 : decode cX3_passRain 151 = .ok (.return_, 1) := by decide +kernel
set_option maxRecDepth 20000 in
theorem ggX3_lookThrough_X3_begin : GoodIn wsX3_lookThrough wsX3_begin := goodIn_r _ [9, 4, 10, 11, 12, 13, 14, 15, 16, 17, 18, 19, 20, 21, 22, 23, 24, 25, 26, 27, 28, 29, 30, 31, 32, 33, 34, 35, 36, 37, 38, 39, 40, 41, 42, 43, 44, 45, 46, 134, 135, 136, 137, 138, 139, 140, 141, 142, 143, 144, 145, 146, 147, 148, 149, 150] (by decide +kernel) (by decide +kernel)
set_option maxRecDepth 20000 in
theorem gX3_lookThrough_X3_begin : GoodIn wsX3_lookThrough (wsV RX3 67 RX3 yX3_begin wsX3_begin) := goodIn_app (goodIn_of _ (by decide +kernel)) ggX3_lookThrough_X3_begin
set_option maxRecDepth 20000 in
theorem ggX3_lookThrough_X3_howMany : GoodIn wsX3_lookThrough wsX3_howMany := goodIn_r _ [50, 10, 134, 135, 136, 137, 138, 139, 140, 141] (by decide +kernel) (by decide +kernel)
set_option maxRecDepth 20000 in
theorem gX3_lookThrough_X3_howMany : GoodIn wsX3_lookThrough (wsV RX3 71 RX3 yX3_howMany wsX3_howMany) := goodIn_app (goodIn_of _ (by decide +kernel)) ggX3_lookThrough_X3_howMany
set_option maxRecDepth 20000 in
theorem ggX3_lookThrough_X3_passRain : GoodIn wsX3_lookThrough wsX3_passRain := goodIn_r _ [54, 10, 55, 4, 11, 56, 27, 57, 45, 46, 58, 59, 60, 15, 61, 20, 62, 63, 64, 65, 17, 66, 67, 68, 69, 70, 71, 23, 72, 73, 74, 75, 22, 41, 42, 43, 44, 76, 77, 78, 79, 80, 81, 82, 83, 84, 85, 86, 87, 88, 89, 31, 90, 91, 92, 93, 94, 24, 95, 96, 97, 98, 99, 100, 101, 102, 103, 104, 105, 106, 107, 108, 109, 110, 111, 30, 32, 37, 38, 39, 40, 134, 135, 136, 137, 138, 139, 140, 141, 142, 143, 144, 145, 146, 147, 148, 149, 150] (by decide +kernel) (by decide +kernel)
set_option maxRecDepth 20000 in
theorem gX3_lookThrough_X3_passRain : GoodIn wsX3_lookThrough (wsV RX3 75 RX3 yX3_passRain wsX3_passRain) := goodIn_app (goodIn_of _ (by decide +kernel)) ggX3_lookThrough_X3_passRain
set_option maxRecDepth 20000 in
theorem ggX3_lookThrough_X1_isOpen : GoodIn wsX3_lookThrough wsX1_isOpen := goodIn_r _ [115, 21, 116, 117, 118, 15, 119, 120, 121, 122, 123, 18, 56, 27, 57, 99, 100, 101, 102, 20, 124, 125, 126, 127, 41, 42, 43, 44, 17, 76, 77, 78, 79, 142, 143, 144, 145, 146, 147, 148, 149, 150] (by decide +kernel) (by decide +kernel)
set_option maxRecDepth 20000 in
theorem gX3_lookThrough_X1_isOpen : GoodIn wsX3_lookThrough (wsV RX3 79 RX1 yX1_isOpen wsX1_isOpen) := goodIn_app (goodIn_of _ (by decide +kernel)) ggX3_lookThrough_X1_isOpen
set_option maxRecDepth 20000 in
theorem ggX3_lookThrough_X3_note : GoodIn wsX3_lookThrough wsX3_note := goodIn_r _ [131, 1, 55, 132, 10, 2, 133, 30, 31, 32, 3, 26, 27, 28, 29, 33, 34, 35, 36, 56, 57, 66, 67, 134, 135, 136, 137, 138, 139, 140, 141] (by decide +kernel) (by decide +kernel)
set_option maxRecDepth 20000 in
theorem gX3_lookThrough_X3_note : GoodIn wsX3_lookThrough (wsV RX3 83 RX3 yX3_note wsX3_note) := goodIn_app (goodIn_of _ (by decide +kernel)) ggX3_lookThrough_X3_note
theorem dX3_lookThrough_0 : decode cX3_lookThrough 0 = .ok (.aload_n 0, 1) := by decide +kernel
theorem dX3_lookThrough_1 : decode cX3_lookThrough 1 = .ok (.aload_n 1, 1) := by decide +kernel
theorem dX3_lookThrough_2 : decode cX3_lookThrough 2 = .ok (.iload_n 2, 1) := by decide +kernel
theorem dX3_lookThrough_3 : decode cX3_lookThrough 3 = .ok (.invokevirtual 67, 3) := by decide +kernel
theorem dX3_lookThrough_6 : decode cX3_lookThrough 6 = .ok (.aload_n 0, 1) := by decide +kernel
theorem dX3_lookThrough_7 : decode cX3_lookThrough 7 = .ok (.iconst 0, 1) := by decide +kernel
theorem dX3_lookThrough_8 : decode cX3_lookThrough 8 = .ok (.putfield 25, 3) := by decide +kernel
theorem dX3_lookThrough_11 : decode cX3_lookThrough 11 = .ok (.aload_n 0, 1) := by decide +kernel
theorem dX3_lookThrough_12 : decode cX3_lookThrough 12 = .ok (.iload_n 2, 1) := by decide +kernel
theorem dX3_lookThrough_13 : decode cX3_lookThrough 13 = .ok (.putfield 28, 3) := by decide +kernel
theorem dX3_lookThrough_16 : decode cX3_lookThrough 16 = .ok (.aload_n 0, 1) := by decide +kernel
theorem dX3_lookThrough_17 : decode cX3_lookThrough 17 = .ok (.bipush 15, 2) := by decide +kernel
theorem dX3_lookThrough_19 : decode cX3_lookThrough 19 = .ok (.putfield 31, 3) := by decide +kernel
theorem dX3_lookThrough_22 : decode cX3_lookThrough 22 = .ok (.aload_n 0, 1) := by decide +kernel
theorem dX3_lookThrough_23 : decode cX3_lookThrough 23 = .ok (.invokevirtual 71, 3) := by decide +kernel
theorem dX3_lookThrough_26 : decode cX3_lookThrough 26 = .ok (.istore_n 3, 1) := by decide +kernel
theorem dX3_lookThrough_27 : decode cX3_lookThrough 27 = .ok (.iconst 0, 1) := by decide +kernel
theorem dX3_lookThrough_28 : decode cX3_lookThrough 28 = .ok (.istore 4, 2) := by decide +kernel
theorem dX3_lookThrough_30 : decode cX3_lookThrough 30 = .ok (.iload 4, 2) := by decide +kernel
theorem dX3_lookThrough_32 : decode cX3_lookThrough 32 = .ok (.iload_n 3, 1) := by decide +kernel
theorem dX3_lookThrough_33 : decode cX3_lookThrough 33 = .ok (.if_icmp .ge 29, 3) := by decide +kernel
theorem dX3_lookThrough_36 : decode cX3_lookThrough 36 = .ok (.aload_n 0, 1) := by decide +kernel
theorem dX3_lookThrough_37 : decode cX3_lookThrough 37 = .ok (.iload 4, 2) := by decide +kernel
theorem dX3_lookThrough_39 : decode cX3_lookThrough 39 = .ok (.invokevirtual 75, 3) := by decide +kernel
theorem dX3_lookThrough_42 : decode cX3_lookThrough 42 = .ok (.aload_n 0, 1) := by decide +kernel
theorem dX3_lookThrough_43 : decode cX3_lookThrough 43 = .ok (.getfield 34, 3) := by decide +kernel
theorem dX3_lookThrough_46 : decode cX3_lookThrough 46 = .ok (.invokevirtual 79, 3) := by decide +kernel
theorem dX3_lookThrough_49 : decode cX3_lookThrough 49 = .ok (.ifCond .eq 7, 3) := by decide +kernel
theorem dX3_lookThrough_52 : decode cX3_lookThrough 52 = .ok (.aload_n 0, 1) := by decide +kernel
theorem dX3_lookThrough_53 : decode cX3_lookThrough 53 = .ok (.invokevirtual 83, 3) := by decide +kernel
theorem dX3_lookThrough_56 : decode cX3_lookThrough 56 = .ok (.iinc 4 1, 3) := by decide +kernel
theorem dX3_lookThrough_59 : decode cX3_lookThrough 59 = .ok (.goto (-29), 3) := by decide +kernel
theorem dX3_lookThrough_62 : decode cX3_lookThrough 62 = .ok (.return_, 1) := by decide +kernel
set_option maxRecDepth 20000 in
theorem ggX3_note_X6_copyRow : GoodIn wsX3_note wsX6_copyRow := goodIn_r _ [13, 14, 7, 8, 9, 15, 16, 17, 18] (by decide +kernel) (by decide +kernel)
set_option maxRecDepth 20000 in
theorem gX3_note_X6_copyRow_n86 : GoodIn wsX3_note (wsX6_copyRow) := ggX3_note_X6_copyRow
set_option maxRecDepth 20000 in
theorem ggX3_note_X6_at : GoodIn wsX3_note wsX6_at := goodIn_r _ [20] (by decide +kernel) (by decide +kernel)
set_option maxRecDepth 20000 in
theorem gX3_note_X6_at_n48 : GoodIn wsX3_note (wsX6_at) := ggX3_note_X6_at
set_option maxRecDepth 20000 in
theorem ggX3_note_X6_sideOf : GoodIn wsX3_note wsX6_sideOf := goodIn_r _ [22] (by decide +kernel) (by decide +kernel)
set_option maxRecDepth 20000 in
theorem gX3_note_X6_sideOf_n59 : GoodIn wsX3_note (wsX6_sideOf) := ggX3_note_X6_sideOf
theorem dX3_note_0 : decode cX3_note 0 = .ok (.aload_n 0, 1) := by decide +kernel
theorem dX3_note_1 : decode cX3_note 1 = .ok (.getfield 25, 3) := by decide +kernel
theorem dX3_note_4 : decode cX3_note 4 = .ok (.ifCond .ne 14, 3) := by decide +kernel
theorem dX3_note_7 : decode cX3_note 7 = .ok (.aload_n 0, 1) := by decide +kernel
theorem dX3_note_8 : decode cX3_note 8 = .ok (.getfield 9, 3) := by decide +kernel
theorem dX3_note_11 : decode cX3_note 11 = .ok (.aload_n 0, 1) := by decide +kernel
theorem dX3_note_12 : decode cX3_note 12 = .ok (.getfield 18, 3) := by decide +kernel
theorem dX3_note_15 : decode cX3_note 15 = .ok (.invokestatic 86, 3) := by decide +kernel
theorem dX3_note_18 : decode cX3_note 18 = .ok (.aload_n 0, 1) := by decide +kernel
theorem dX3_note_19 : decode cX3_note 19 = .ok (.dup, 1) := by decide +kernel
theorem dX3_note_20 : decode cX3_note 20 = .ok (.getfield 25, 3) := by decide +kernel
theorem dX3_note_23 : decode cX3_note 23 = .ok (.iconst 1, 1) := by decide +kernel
theorem dX3_note_24 : decode cX3_note 24 = .ok (.iadd, 1) := by decide +kernel
theorem dX3_note_25 : decode cX3_note 25 = .ok (.putfield 25, 3) := by decide +kernel
theorem dX3_note_28 : decode cX3_note 28 = .ok (.iconst 0, 1) := by decide +kernel
theorem dX3_note_29 : decode cX3_note 29 = .ok (.istore_n 1, 1) := by decide +kernel
theorem dX3_note_30 : decode cX3_note 30 = .ok (.iconst 0, 1) := by decide +kernel
theorem dX3_note_31 : decode cX3_note 31 = .ok (.istore_n 2, 1) := by decide +kernel
theorem dX3_note_32 : decode cX3_note 32 = .ok (.iconst 0, 1) := by decide +kernel
theorem dX3_note_33 : decode cX3_note 33 = .ok (.istore_n 3, 1) := by decide +kernel
theorem dX3_note_34 : decode cX3_note 34 = .ok (.iload_n 3, 1) := by decide +kernel
theorem dX3_note_35 : decode cX3_note 35 = .ok (.aload_n 0, 1) := by decide +kernel
theorem dX3_note_36 : decode cX3_note 36 = .ok (.getfield 21, 3) := by decide +kernel
theorem dX3_note_39 : decode cX3_note 39 = .ok (.if_icmp .ge 37, 3) := by decide +kernel
theorem dX3_note_42 : decode cX3_note 42 = .ok (.aload_n 0, 1) := by decide +kernel
theorem dX3_note_43 : decode cX3_note 43 = .ok (.getfield 9, 3) := by decide +kernel
theorem dX3_note_46 : decode cX3_note 46 = .ok (.iload_n 3, 1) := by decide +kernel
theorem dX3_note_47 : decode cX3_note 47 = .ok (.invokestatic 48, 3) := by decide +kernel
theorem dX3_note_50 : decode cX3_note 50 = .ok (.istore 4, 2) := by decide +kernel
theorem dX3_note_52 : decode cX3_note 52 = .ok (.iload 4, 2) := by decide +kernel
theorem dX3_note_54 : decode cX3_note 54 = .ok (.ifCond .le 16, 3) := by decide +kernel
theorem dX3_note_57 : decode cX3_note 57 = .ok (.iinc 1 1, 3) := by decide +kernel
theorem dX3_note_60 : decode cX3_note 60 = .ok (.iload_n 2, 1) := by decide +kernel
theorem dX3_note_61 : decode cX3_note 61 = .ok (.iconst 1, 1) := by decide +kernel
theorem dX3_note_62 : decode cX3_note 62 = .ok (.iload 4, 2) := by decide +kernel
theorem dX3_note_64 : decode cX3_note 64 = .ok (.invokestatic 59, 3) := by decide +kernel
theorem dX3_note_67 : decode cX3_note 67 = .ok (.ishl, 1) := by decide +kernel
theorem dX3_note_68 : decode cX3_note 68 = .ok (.ior, 1) := by decide +kernel
theorem dX3_note_69 : decode cX3_note 69 = .ok (.istore_n 2, 1) := by decide +kernel
theorem dX3_note_70 : decode cX3_note 70 = .ok (.iinc 3 1, 3) := by decide +kernel
theorem dX3_note_73 : decode cX3_note 73 = .ok (.goto (-39), 3) := by decide +kernel
theorem dX3_note_76 : decode cX3_note 76 = .ok (.aload_n 0, 1) := by decide +kernel
theorem dX3_note_77 : decode cX3_note 77 = .ok (.aload_n 0, 1) := by decide +kernel
theorem dX3_note_78 : decode cX3_note 78 = .ok (.getfield 28, 3) := by decide +kernel
theorem dX3_note_81 : decode cX3_note 81 = .ok (.iload_n 1, 1) := by decide +kernel
theorem dX3_note_82 : decode cX3_note 82 = .ok (.invokestatic 90, 3) := by decide +kernel
theorem dX3_note_85 : decode cX3_note 85 = .ok (.putfield 28, 3) := by decide +kernel
theorem dX3_note_88 : decode cX3_note 88 = .ok (.aload_n 0, 1) := by decide +kernel
theorem dX3_note_89 : decode cX3_note 89 = .ok (.dup, 1) := by decide +kernel
theorem dX3_note_90 : decode cX3_note 90 = .ok (.getfield 31, 3) := by decide +kernel
theorem dX3_note_93 : decode cX3_note 93 = .ok (.iload_n 2, 1) := by decide +kernel
theorem dX3_note_94 : decode cX3_note 94 = .ok (.iand, 1) := by decide +kernel
theorem dX3_note_95 : decode cX3_note 95 = .ok (.putfield 31, 3) := by decide +kernel
theorem dX3_note_98 : decode cX3_note 98 = .ok (.return_, 1) := by decide +kernel
set_option maxRecDepth 20000 in
theorem ggX4_init_X5_init : GoodIn wsX4_init wsX5_init := goodIn_r _ [13, 14, 2, 3, 15, 16, 17, 18, 19, 20, 21, 26, 27, 28, 29, 30, 31] (by decide +kernel) (by decide +kernel)
set_option maxRecDepth 20000 in
theorem gX4_init_X5_init : GoodIn wsX4_init (wsX5_init) := ggX4_init_X5_init
theorem dX4_init_0 : decode cX4_init 0 = .ok (.aload_n 0, 1) := by decide +kernel
theorem dX4_init_1 : decode cX4_init 1 = .ok (.invokespecial 3, 3) := by decide +kernel
theorem dX4_init_4 : decode cX4_init 4 = .ok (.aload_n 0, 1) := by decide +kernel
theorem dX4_init_5 : decode cX4_init 5 = .ok (.iconst 0, 1) := by decide +kernel
theorem dX4_init_6 : decode cX4_init 6 = .ok (.putfield 9, 3) := by decide +kernel
theorem dX4_init_9 : decode cX4_init 9 = .ok (.aload_n 0, 1) := by decide +kernel
theorem dX4_init_10 : decode cX4_init 10 = .ok (.iconst 0, 1) := by decide +kernel
theorem dX4_init_11 : decode cX4_init 11 = .ok (.putfield 15, 3) := by decide +kernel
theorem dX4_init_14 : decode cX4_init 14 = .ok (.aload_n 0, 1) := by decide +kernel
theorem dX4_init_15 : decode cX4_init 15 = .ok (.new 18, 3) := by decide +kernel
theorem dX4_init_18 : decode cX4_init 18 = .ok (.dup, 1) := by decide +kernel
theorem dX4_init_19 : decode cX4_init 19 = .ok (.aload_n 1, 1) := by decide +kernel
theorem dX4_init_20 : decode cX4_init 20 = .ok (.invokespecial 20, 3) := by decide +kernel
theorem dX4_init_23 : decode cX4_init 23 = .ok (.putfield 23, 3) := by decide +kernel
theorem dX4_init_26 : decode cX4_init 26 = .ok (.aload_n 0, 1) := by decide +kernel
theorem dX4_init_27 : decode cX4_init 27 = .ok (.aload_n 2, 1) := by decide +kernel
theorem dX4_init_28 : decode cX4_init 28 = .ok (.putfield 27, 3) := by decide +kernel
theorem dX4_init_31 : decode cX4_init 31 = .ok (.return_, 1) := by decide +kernel
set_option maxRecDepth 20000 in
theorem ggX4_read_X5_cut : GoodIn wsX4_read wsX5_cut := goodIn_r _ [7, 8, 9, 10, 11, 12, 13, 14, 15, 16, 17, 18, 19, 20, 21, 22, 6, 23, 24, 25, 26, 27, 28, 29, 30, 31, 32, 33, 34, 35, 36, 37, 38, 39, 40, 41, 42, 43, 44, 45, 46, 47, 48, 49, 50, 51, 52, 53, 54, 55, 56, 57, 58, 59, 60, 61, 62, 63, 64, 65, 66, 67, 68, 69, 70, 71, 72, 73, 74, 75, 76, 77, 78, 79, 80, 81, 82, 83, 84, 85, 86, 87, 88, 89, 90, 91, 92, 93, 94, 95, 96, 162, 163, 164, 165, 166, 167] (by decide +kernel) (by decide +kernel)
set_option maxRecDepth 20000 in
theorem gX4_read_X5_cut : GoodIn wsX4_read (wsV RX4 31 RX5 yX5_cut wsX5_cut) := goodIn_app (goodIn_of _ (by decide +kernel)) ggX4_read_X5_cut
set_option maxRecDepth 20000 in
theorem ggX4_read_X4_readItem : GoodIn wsX4_read wsX4_readItem := goodIn_r _ [101, 102, 2, 103, 104, 105, 100, 106, 1, 17, 18, 19, 107, 108, 109, 110, 111, 112, 113, 114, 115, 116, 117, 118, 119, 120, 121, 122, 123, 124, 125, 126, 127, 128, 129, 130, 131, 132, 133, 134, 135, 136, 137, 138, 139, 140, 141, 142, 143, 144, 145, 146, 147, 148, 149, 150, 151, 152, 153, 154, 155, 156, 157, 95, 96, 158, 159, 160, 161, 168, 169, 170, 171, 172, 173, 174, 175, 176, 162, 163, 164, 165, 166, 167] (by decide +kernel) (by decide +kernel)
set_option maxRecDepth 20000 in
theorem gX4_read_X4_readItem : GoodIn wsX4_read (wsV RX4 35 RX4 yX4_readItem wsX4_readItem) := goodIn_app (goodIn_of _ (by decide +kernel)) ggX4_read_X4_readItem
set_option maxRecDepth 20000 in
theorem ggX4_read_X4_sortNow : GoodIn wsX4_read wsX4_sortNow := goodIn_r _ [106, 1, 2, 17, 18, 19, 158, 159, 160, 161, 162, 163, 164, 165, 166, 167] (by decide +kernel) (by decide +kernel)
set_option maxRecDepth 20000 in
theorem gX4_read_X4_sortNow : GoodIn wsX4_read (wsV RX4 39 RX4 yX4_sortNow wsX4_sortNow) := goodIn_app (goodIn_of _ (by decide +kernel)) ggX4_read_X4_sortNow
set_option maxRecDepth 20000 in
theorem ggX4_read_X6_at : GoodIn wsX4_read wsX6_at := goodIn_r _ [19] (by decide +kernel) (by decide +kernel)
set_option maxRecDepth 20000 in
theorem gX4_read_X6_at_n47 : GoodIn wsX4_read (wsX6_at) := ggX4_read_X6_at
theorem dX4_read_0 : decode cX4_read 0 = .ok (.aload_n 0, 1) := by decide +kernel
theorem dX4_read_1 : decode cX4_read 1 = .ok (.getfield 23, 3) := by decide +kernel
theorem dX4_read_4 : decode cX4_read 4 = .ok (.iload_n 1, 1) := by decide +kernel
theorem dX4_read_5 : decode cX4_read 5 = .ok (.invokevirtual 31, 3) := by decide +kernel
theorem dX4_read_8 : decode cX4_read 8 = .ok (.aload_n 0, 1) := by decide +kernel
theorem dX4_read_9 : decode cX4_read 9 = .ok (.iconst 0, 1) := by decide +kernel
theorem dX4_read_10 : decode cX4_read 10 = .ok (.putfield 9, 3) := by decide +kernel
theorem dX4_read_13 : decode cX4_read 13 = .ok (.iconst 1, 1) := by decide +kernel
theorem dX4_read_14 : decode cX4_read 14 = .ok (.istore_n 2, 1) := by decide +kernel
theorem dX4_read_15 : decode cX4_read 15 = .ok (.iload_n 2, 1) := by decide +kernel
theorem dX4_read_16 : decode cX4_read 16 = .ok (.bipush 120, 2) := by decide +kernel
theorem dX4_read_18 : decode cX4_read 18 = .ok (.if_icmp .gt 49, 3) := by decide +kernel
theorem dX4_read_21 : decode cX4_read 21 = .ok (.aload_n 0, 1) := by decide +kernel
theorem dX4_read_22 : decode cX4_read 22 = .ok (.invokevirtual 35, 3) := by decide +kernel
theorem dX4_read_25 : decode cX4_read 25 = .ok (.ifCond .eq 42, 3) := by decide +kernel
theorem dX4_read_28 : decode cX4_read 28 = .ok (.aload_n 0, 1) := by decide +kernel
theorem dX4_read_29 : decode cX4_read 29 = .ok (.invokevirtual 39, 3) := by decide +kernel
theorem dX4_read_32 : decode cX4_read 32 = .ok (.bipush 17, 2) := by decide +kernel
theorem dX4_read_34 : decode cX4_read 34 = .ok (.if_icmp .ne 5, 3) := by decide +kernel
theorem dX4_read_37 : decode cX4_read 37 = .ok (.iload_n 2, 1) := by decide +kernel
theorem dX4_read_38 : decode cX4_read 38 = .ok (.ireturn, 1) := by decide +kernel
theorem dX4_read_39 : decode cX4_read 39 = .ok (.aload_n 0, 1) := by decide +kernel
theorem dX4_read_40 : decode cX4_read 40 = .ok (.invokevirtual 39, 3) := by decide +kernel
theorem dX4_read_43 : decode cX4_read 43 = .ok (.bipush 16, 2) := by decide +kernel
theorem dX4_read_45 : decode cX4_read 45 = .ok (.if_icmp .eq 6, 3) := by decide +kernel
theorem dX4_read_48 : decode cX4_read 48 = .ok (.goto 19, 3) := by decide +kernel
theorem dX4_read_51 : decode cX4_read 51 = .ok (.aload_n 0, 1) := by decide +kernel
theorem dX4_read_52 : decode cX4_read 52 = .ok (.dup, 1) := by decide +kernel
theorem dX4_read_53 : decode cX4_read 53 = .ok (.getfield 9, 3) := by decide +kernel
theorem dX4_read_56 : decode cX4_read 56 = .ok (.iconst 1, 1) := by decide +kernel
theorem dX4_read_57 : decode cX4_read 57 = .ok (.iadd, 1) := by decide +kernel
theorem dX4_read_58 : decode cX4_read 58 = .ok (.putfield 9, 3) := by decide +kernel
theorem dX4_read_61 : decode cX4_read 61 = .ok (.iinc 2 1, 3) := by decide +kernel
theorem dX4_read_64 : decode cX4_read 64 = .ok (.goto (-49), 3) := by decide +kernel
theorem dX4_read_67 : decode cX4_read 67 = .ok (.iconst (-1), 1) := by decide +kernel
theorem dX4_read_68 : decode cX4_read 68 = .ok (.aload_n 0, 1) := by decide +kernel
theorem dX4_read_69 : decode cX4_read 69 = .ok (.getfield 23, 3) := by decide +kernel
theorem dX4_read_72 : decode cX4_read 72 = .ok (.getfield 43, 3) := by decide +kernel
theorem dX4_read_75 : decode cX4_read 75 = .ok (.aload_n 0, 1) := by decide +kernel
theorem dX4_read_76 : decode cX4_read 76 = .ok (.getfield 9, 3) := by decide +kernel
theorem dX4_read_79 : decode cX4_read 79 = .ok (.invokestatic 47, 3) := by decide +kernel
theorem dX4_read_82 : decode cX4_read 82 = .ok (.isub, 1) := by decide +kernel
theorem dX4_read_83 : decode cX4_read 83 = .ok (.ireturn, 1) := by decide +kernel
set_option maxRecDepth 20000 in
theorem ggX4_sortNow_X6_at : GoodIn wsX4_sortNow wsX6_at := goodIn_r _ [5] (by decide +kernel) (by decide +kernel)
set_option maxRecDepth 20000 in
theorem gX4_sortNow_X6_at_n47 : GoodIn wsX4_sortNow (wsX6_at) := ggX4_sortNow_X6_at
theorem dX4_sortNow_0 : decode cX4_sortNow 0 = .ok (.aload_n 0, 1) := by decide +kernel
theorem dX4_sortNow_1 : decode cX4_sortNow 1 = .ok (.getfield 23, 3) := by decide +kernel
theorem dX4_sortNow_4 : decode cX4_sortNow 4 = .ok (.getfield 51, 3) := by decide +kernel
theorem dX4_sortNow_7 : decode cX4_sortNow 7 = .ok (.aload_n 0, 1) := by decide +kernel
theorem dX4_sortNow_8 : decode cX4_sortNow 8 = .ok (.getfield 9, 3) := by decide +kernel
theorem dX4_sortNow_11 : decode cX4_sortNow 11 = .ok (.invokestatic 47, 3) := by decide +kernel
theorem dX4_sortNow_14 : decode cX4_sortNow 14 = .ok (.ireturn, 1) := by decide +kernel
set_option maxRecDepth 20000 in
theorem ggX4_readItem_X4_sortNow : GoodIn wsX4_readItem wsX4_sortNow := goodIn_r _ [7, 8, 2, 9, 10, 11, 65, 66, 67, 68, 78, 79, 80, 81, 82, 83] (by decide +kernel) (by decide +kernel)
set_option maxRecDepth 20000 in
theorem gX4_readItem_X4_sortNow : GoodIn wsX4_readItem (wsV RX4 39 RX4 yX4_sortNow wsX4_sortNow) := goodIn_app (goodIn_of _ (by decide +kernel)) ggX4_readItem_X4_sortNow
set_option maxRecDepth 20000 in
theorem ggX4_readItem_X4_readCistern : GoodIn wsX4_readItem wsX4_readCistern := goodIn_r _ [15, 1, 2, 16, 17, 18, 19, 6, 20, 3, 4, 5, 7, 8, 9, 10, 11, 21, 22, 23, 24, 25, 26, 27, 28, 29, 30, 31, 32, 33, 34, 35, 36, 37, 38, 39, 40, 41, 42, 65, 66, 67, 68, 69, 70, 71, 72, 73, 74, 75, 76, 77, 78, 79, 80, 81, 82, 83] (by decide +kernel) (by decide +kernel)
set_option maxRecDepth 20000 in
theorem gX4_readItem_X4_readCistern : GoodIn wsX4_readItem (wsV RX4 54 RX4 yX4_readCistern wsX4_readCistern) := goodIn_app (goodIn_of _ (by decide +kernel)) ggX4_readItem_X4_readCistern
set_option maxRecDepth 20000 in
theorem ggX4_readItem_X4_readCatch : GoodIn wsX4_readItem wsX4_readCatch := goodIn_r _ [46, 2, 1, 16, 21, 22, 23, 6, 24, 8, 9, 10, 11, 25, 26, 42, 34, 35, 30, 36, 37, 65, 66, 67, 68, 69, 70, 71, 72, 73, 74, 75, 76, 77, 78, 79, 80, 81, 82, 83] (by decide +kernel) (by decide +kernel)
set_option maxRecDepth 20000 in
theorem gX4_readItem_X4_readCatch : GoodIn wsX4_readItem (wsV RX4 58 RX4 yX4_readCatch wsX4_readCatch) := goodIn_app (goodIn_of _ (by decide +kernel)) ggX4_readItem_X4_readCatch
set_option maxRecDepth 20000 in
theorem ggX4_readItem_X4_readLock : GoodIn wsX4_readItem wsX4_readLock := goodIn_r _ [50, 1, 2, 16, 21, 22, 23, 6, 24, 8, 9, 10, 11, 25, 26, 51, 52, 53, 54, 55, 30, 56, 57, 58, 59, 60, 61, 62, 63, 64, 65, 66, 67, 68, 69, 70, 71, 72, 73, 74, 75, 76, 77, 78, 79, 80, 81, 82, 83] (by decide +kernel) (by decide +kernel)
set_option maxRecDepth 20000 in
theorem gX4_readItem_X4_readLock : GoodIn wsX4_readItem (wsV RX4 61 RX4 yX4_readLock wsX4_readLock) := goodIn_app (goodIn_of _ (by decide +kernel)) ggX4_readItem_X4_readLock
theorem dX4_readItem_0 : decode cX4_readItem 0 = .ok (.aload_n 0, 1) := by decide +kernel
theorem dX4_readItem_1 : decode cX4_readItem 1 = .ok (.invokevirtual 39, 3) := by decide +kernel
theorem dX4_readItem_4 : decode cX4_readItem 4 = .ok (.istore_n 1, 1) := by decide +kernel
theorem dX4_readItem_5 : decode cX4_readItem 5 = .ok (.iload_n 1, 1) := by decide +kernel
theorem dX4_readItem_6 : decode cX4_readItem 6 = .ok (.bipush 6, 2) := by decide +kernel
theorem dX4_readItem_8 : decode cX4_readItem 8 = .ok (.if_icmp .gt 9, 3) := by decide +kernel
theorem dX4_readItem_11 : decode cX4_readItem 11 = .ok (.aload_n 0, 1) := by decide +kernel
theorem dX4_readItem_12 : decode cX4_readItem 12 = .ok (.iload_n 1, 1) := by decide +kernel
theorem dX4_readItem_13 : decode cX4_readItem 13 = .ok (.invokevirtual 54, 3) := by decide +kernel
theorem dX4_readItem_16 : decode cX4_readItem 16 = .ok (.ireturn, 1) := by decide +kernel
theorem dX4_readItem_17 : decode cX4_readItem 17 = .ok (.iload_n 1, 1) := by decide +kernel
theorem dX4_readItem_18 : decode cX4_readItem 18 = .ok (.tableswitch 70 11 14 #[30, 35, 40, 40], 30) := by decide +kernel
theorem dX4_readItem_48 : decode cX4_readItem 48 = .ok (.aload_n 0, 1) := by decide +kernel
theorem dX4_readItem_49 : decode cX4_readItem 49 = .ok (.invokevirtual 58, 3) := by decide +kernel
theorem dX4_readItem_52 : decode cX4_readItem 52 = .ok (.ireturn, 1) := by decide +kernel
theorem dX4_readItem_53 : decode cX4_readItem 53 = .ok (.aload_n 0, 1) := by decide +kernel
theorem dX4_readItem_54 : decode cX4_readItem 54 = .ok (.invokevirtual 61, 3) := by decide +kernel
theorem dX4_readItem_57 : decode cX4_readItem 57 = .ok (.ireturn, 1) := by decide +kernel
theorem dX4_readItem_58 : decode cX4_readItem 58 = .ok (.aload_n 0, 1) := by decide +kernel
theorem dX4_readItem_59 : decode cX4_readItem 59 = .ok (.getfield 27, 3) := by decide +kernel
theorem dX4_readItem_62 : decode cX4_readItem 62 = .ok (.iload_n 1, 1) := by decide +kernel
theorem dX4_readItem_63 : decode cX4_readItem 63 = .ok (.bipush 13, 2) := by decide +kernel
theorem dX4_readItem_65 : decode cX4_readItem 65 = .ok (.if_icmp .ne 7, 3) := by decide +kernel
theorem dX4_readItem_68 : decode cX4_readItem 68 = .ok (.iconst 1, 1) := by decide +kernel
theorem dX4_readItem_69 : decode cX4_readItem 69 = .ok (.goto 4, 3) := by decide +kernel
theorem dX4_readItem_72 : decode cX4_readItem 72 = .ok (.iconst 0, 1) := by decide +kernel
theorem dX4_readItem_73 : decode cX4_readItem 73 = .ok (.putfield 64, 3) := by decide +kernel
theorem dX4_readItem_76 : decode cX4_readItem 76 = .ok (.aload_n 0, 1) := by decide +kernel
theorem dX4_readItem_77 : decode cX4_readItem 77 = .ok (.dup, 1) := by decide +kernel
theorem dX4_readItem_78 : decode cX4_readItem 78 = .ok (.getfield 9, 3) := by decide +kernel
theorem dX4_readItem_81 : decode cX4_readItem 81 = .ok (.iconst 1, 1) := by decide +kernel
theorem dX4_readItem_82 : decode cX4_readItem 82 = .ok (.iadd, 1) := by decide +kernel
theorem dX4_readItem_83 : decode cX4_readItem 83 = .ok (.putfield 9, 3) := by decide +kernel
theorem dX4_readItem_86 : decode cX4_readItem 86 = .ok (.iconst 1, 1) := by decide +kernel
theorem dX4_readItem_87 : decode cX4_readItem 87 = .ok (.ireturn, 1) := by decide +kernel
theorem dX4_readItem_88 : decode cX4_readItem 88 = .ok (.iconst 0, 1) := by decide +kernel
theorem dX4_readItem_89 : decode cX4_readItem 89 = .ok (.ireturn, 1) := by decide +kernel
set_option maxRecDepth 20000 in
theorem ggX4_readCistern_X4_takePart : GoodIn wsX4_readCistern wsX4_takePart := goodIn_r _ [8, 2, 3, 9, 10, 11, 7, 12, 13, 14, 15, 16, 17, 18, 19, 20, 21, 22, 39, 40, 41, 42, 52, 53, 54, 55, 56, 57] (by decide +kernel) (by decide +kernel)
set_option maxRecDepth 20000 in
theorem gX4_readCistern_X4_takePart : GoodIn wsX4_readCistern (wsV RX4 73 RX4 yX4_takePart wsX4_takePart) := goodIn_app (goodIn_of _ (by decide +kernel)) ggX4_readCistern_X4_takePart
set_option maxRecDepth 20000 in
theorem ggX4_readCistern_X1_addCistern : GoodIn wsX4_readCistern wsX1_addCistern := goodIn_r _ [27, 28, 29, 30, 31, 26, 32, 33, 43, 44, 45, 46, 47, 48, 49, 50, 51] (by decide +kernel) (by decide +kernel)
set_option maxRecDepth 20000 in
theorem gX4_readCistern_X1_addCistern : GoodIn wsX4_readCistern (wsV RX4 77 RX1 yX1_addCistern wsX1_addCistern) := goodIn_app (goodIn_of _ (by decide +kernel)) ggX4_readCistern_X1_addCistern
set_option maxRecDepth 20000 in
theorem ggX4_readCistern_X4_setTaken : GoodIn wsX4_readCistern wsX4_setTaken := goodIn_r _ [37, 1, 3, 38, 30, 31, 26, 32, 33, 39, 40, 41, 42, 43, 44, 45, 46, 47, 48, 49, 50, 51] (by decide +kernel) (by decide +kernel)
set_option maxRecDepth 20000 in
theorem gX4_readCistern_X4_setTaken : GoodIn wsX4_readCistern (wsV RX4 81 RX4 yX4_setTaken wsX4_setTaken) := goodIn_app (goodIn_of _ (by decide +kernel)) ggX4_readCistern_X4_setTaken
theorem dX4_readCistern_0 : decode cX4_readCistern 0 = .ok (.aload_n 0, 1) := by decide +kernel
theorem dX4_readCistern_1 : decode cX4_readCistern 1 = .ok (.getfield 27, 3) := by decide +kernel
theorem dX4_readCistern_4 : decode cX4_readCistern 4 = .ok (.getfield 70, 3) := by decide +kernel
theorem dX4_readCistern_7 : decode cX4_readCistern 7 = .ok (.bipush 8, 2) := by decide +kernel
theorem dX4_readCistern_9 : decode cX4_readCistern 9 = .ok (.if_icmp .lt 5, 3) := by decide +kernel
theorem dX4_readCistern_12 : decode cX4_readCistern 12 = .ok (.iconst 0, 1) := by decide +kernel
theorem dX4_readCistern_13 : decode cX4_readCistern 13 = .ok (.ireturn, 1) := by decide +kernel
theorem dX4_readCistern_14 : decode cX4_readCistern 14 = .ok (.aload_n 0, 1) := by decide +kernel
theorem dX4_readCistern_15 : decode cX4_readCistern 15 = .ok (.dup, 1) := by decide +kernel
theorem dX4_readCistern_16 : decode cX4_readCistern 16 = .ok (.getfield 9, 3) := by decide +kernel
theorem dX4_readCistern_19 : decode cX4_readCistern 19 = .ok (.iconst 1, 1) := by decide +kernel
theorem dX4_readCistern_20 : decode cX4_readCistern 20 = .ok (.iadd, 1) := by decide +kernel
theorem dX4_readCistern_21 : decode cX4_readCistern 21 = .ok (.putfield 9, 3) := by decide +kernel
theorem dX4_readCistern_24 : decode cX4_readCistern 24 = .ok (.aload_n 0, 1) := by decide +kernel
theorem dX4_readCistern_25 : decode cX4_readCistern 25 = .ok (.bipush 7, 2) := by decide +kernel
theorem dX4_readCistern_27 : decode cX4_readCistern 27 = .ok (.iconst 1, 1) := by decide +kernel
theorem dX4_readCistern_28 : decode cX4_readCistern 28 = .ok (.bipush 40, 2) := by decide +kernel
theorem dX4_readCistern_30 : decode cX4_readCistern 30 = .ok (.bipush 10, 2) := by decide +kernel
theorem dX4_readCistern_32 : decode cX4_readCistern 32 = .ok (.invokevirtual 73, 3) := by decide +kernel
theorem dX4_readCistern_35 : decode cX4_readCistern 35 = .ok (.ifCond .ne 5, 3) := by decide +kernel
theorem dX4_readCistern_38 : decode cX4_readCistern 38 = .ok (.iconst 0, 1) := by decide +kernel
theorem dX4_readCistern_39 : decode cX4_readCistern 39 = .ok (.ireturn, 1) := by decide +kernel
theorem dX4_readCistern_40 : decode cX4_readCistern 40 = .ok (.aload_n 0, 1) := by decide +kernel
theorem dX4_readCistern_41 : decode cX4_readCistern 41 = .ok (.getfield 15, 3) := by decide +kernel
theorem dX4_readCistern_44 : decode cX4_readCistern 44 = .ok (.istore_n 2, 1) := by decide +kernel
theorem dX4_readCistern_45 : decode cX4_readCistern 45 = .ok (.aload_n 0, 1) := by decide +kernel
theorem dX4_readCistern_46 : decode cX4_readCistern 46 = .ok (.getfield 27, 3) := by decide +kernel
theorem dX4_readCistern_49 : decode cX4_readCistern 49 = .ok (.iload_n 1, 1) := by decide +kernel
theorem dX4_readCistern_50 : decode cX4_readCistern 50 = .ok (.iload_n 2, 1) := by decide +kernel
theorem dX4_readCistern_51 : decode cX4_readCistern 51 = .ok (.invokevirtual 77, 3) := by decide +kernel
theorem dX4_readCistern_54 : decode cX4_readCistern 54 = .ok (.istore_n 3, 1) := by decide +kernel
theorem dX4_readCistern_55 : decode cX4_readCistern 55 = .ok (.aload_n 0, 1) := by decide +kernel
theorem dX4_readCistern_56 : decode cX4_readCistern 56 = .ok (.bipush 8, 2) := by decide +kernel
theorem dX4_readCistern_58 : decode cX4_readCistern 58 = .ok (.iconst 0, 1) := by decide +kernel
theorem dX4_readCistern_59 : decode cX4_readCistern 59 = .ok (.iload_n 2, 1) := by decide +kernel
theorem dX4_readCistern_60 : decode cX4_readCistern 60 = .ok (.iconst 0, 1) := by decide +kernel
theorem dX4_readCistern_61 : decode cX4_readCistern 61 = .ok (.invokevirtual 73, 3) := by decide +kernel
theorem dX4_readCistern_64 : decode cX4_readCistern 64 = .ok (.ifCond .eq 60, 3) := by decide +kernel
theorem dX4_readCistern_67 : decode cX4_readCistern 67 = .ok (.aload_n 0, 1) := by decide +kernel
theorem dX4_readCistern_68 : decode cX4_readCistern 68 = .ok (.iload_n 3, 1) := by decide +kernel
theorem dX4_readCistern_69 : decode cX4_readCistern 69 = .ok (.iconst 2, 1) := by decide +kernel
theorem dX4_readCistern_70 : decode cX4_readCistern 70 = .ok (.invokevirtual 81, 3) := by decide +kernel
theorem dX4_readCistern_73 : decode cX4_readCistern 73 = .ok (.ifCond .eq 51, 3) := by decide +kernel
theorem dX4_readCistern_76 : decode cX4_readCistern 76 = .ok (.aload_n 0, 1) := by decide +kernel
theorem dX4_readCistern_77 : decode cX4_readCistern 77 = .ok (.bipush 9, 2) := by decide +kernel
theorem dX4_readCistern_79 : decode cX4_readCistern 79 = .ok (.iconst 0, 1) := by decide +kernel
theorem dX4_readCistern_80 : decode cX4_readCistern 80 = .ok (.bipush 9, 2) := by decide +kernel
theorem dX4_readCistern_82 : decode cX4_readCistern 82 = .ok (.iconst 1, 1) := by decide +kernel
theorem dX4_readCistern_83 : decode cX4_readCistern 83 = .ok (.invokevirtual 73, 3) := by decide +kernel
theorem dX4_readCistern_86 : decode cX4_readCistern 86 = .ok (.ifCond .eq 38, 3) := by decide +kernel
theorem dX4_readCistern_89 : decode cX4_readCistern 89 = .ok (.aload_n 0, 1) := by decide +kernel
theorem dX4_readCistern_90 : decode cX4_readCistern 90 = .ok (.iload_n 3, 1) := by decide +kernel
theorem dX4_readCistern_91 : decode cX4_readCistern 91 = .ok (.iconst 3, 1) := by decide +kernel
theorem dX4_readCistern_92 : decode cX4_readCistern 92 = .ok (.invokevirtual 81, 3) := by decide +kernel
theorem dX4_readCistern_95 : decode cX4_readCistern 95 = .ok (.ifCond .eq 29, 3) := by decide +kernel
theorem dX4_readCistern_98 : decode cX4_readCistern 98 = .ok (.aload_n 0, 1) := by decide +kernel
theorem dX4_readCistern_99 : decode cX4_readCistern 99 = .ok (.bipush 10, 2) := by decide +kernel
theorem dX4_readCistern_101 : decode cX4_readCistern 101 = .ok (.iconst 0, 1) := by decide +kernel
theorem dX4_readCistern_102 : decode cX4_readCistern 102 = .ok (.bipush 7, 2) := by decide +kernel
theorem dX4_readCistern_104 : decode cX4_readCistern 104 = .ok (.iconst (-1), 1) := by decide +kernel
theorem dX4_readCistern_105 : decode cX4_readCistern 105 = .ok (.invokevirtual 73, 3) := by decide +kernel
theorem dX4_readCistern_108 : decode cX4_readCistern 108 = .ok (.ifCond .eq 16, 3) := by decide +kernel
theorem dX4_readCistern_111 : decode cX4_readCistern 111 = .ok (.aload_n 0, 1) := by decide +kernel
theorem dX4_readCistern_112 : decode cX4_readCistern 112 = .ok (.iload_n 3, 1) := by decide +kernel
theorem dX4_readCistern_113 : decode cX4_readCistern 113 = .ok (.iconst 4, 1) := by decide +kernel
theorem dX4_readCistern_114 : decode cX4_readCistern 114 = .ok (.invokevirtual 81, 3) := by decide +kernel
theorem dX4_readCistern_117 : decode cX4_readCistern 117 = .ok (.ifCond .eq 7, 3) := by decide +kernel
theorem dX4_readCistern_120 : decode cX4_readCistern 120 = .ok (.iconst 1, 1) := by decide +kernel
theorem dX4_readCistern_121 : decode cX4_readCistern 121 = .ok (.goto 4, 3) := by decide +kernel
theorem dX4_readCistern_124 : decode cX4_readCistern 124 = .ok (.iconst 0, 1) := by decide +kernel
theorem dX4_readCistern_125 : decode cX4_readCistern 125 = .ok (.ireturn, 1) := by decide +kernel
set_option maxRecDepth 20000 in
theorem ggX4_readCatch_X4_takeNumber : GoodIn wsX4_readCatch wsX4_takeNumber := goodIn_r _ [8, 9, 1, 3, 10, 11, 12, 13, 14, 21, 22, 23, 24, 34, 35, 36, 37, 38, 39] (by decide +kernel) (by decide +kernel)
set_option maxRecDepth 20000 in
theorem gX4_readCatch_X4_takeNumber : GoodIn wsX4_readCatch (wsV RX4 85 RX4 yX4_takeNumber wsX4_takeNumber) := goodIn_app (goodIn_of _ (by decide +kernel)) ggX4_readCatch_X4_takeNumber
set_option maxRecDepth 20000 in
theorem ggX4_readCatch_X1_set : GoodIn wsX4_readCatch wsX1_set := goodIn_r _ [19, 20, 25, 26, 27, 28, 29, 30, 31, 32, 33] (by decide +kernel) (by decide +kernel)
set_option maxRecDepth 20000 in
theorem gX4_readCatch_X1_set : GoodIn wsX4_readCatch (wsV RX4 88 RX1 yX1_set wsX1_set) := goodIn_app (goodIn_of _ (by decide +kernel)) ggX4_readCatch_X1_set
theorem dX4_readCatch_0 : decode cX4_readCatch 0 = .ok (.aload_n 0, 1) := by decide +kernel
theorem dX4_readCatch_1 : decode cX4_readCatch 1 = .ok (.dup, 1) := by decide +kernel
theorem dX4_readCatch_2 : decode cX4_readCatch 2 = .ok (.getfield 9, 3) := by decide +kernel
theorem dX4_readCatch_5 : decode cX4_readCatch 5 = .ok (.iconst 1, 1) := by decide +kernel
theorem dX4_readCatch_6 : decode cX4_readCatch 6 = .ok (.iadd, 1) := by decide +kernel
theorem dX4_readCatch_7 : decode cX4_readCatch 7 = .ok (.putfield 9, 3) := by decide +kernel
theorem dX4_readCatch_10 : decode cX4_readCatch 10 = .ok (.aload_n 0, 1) := by decide +kernel
theorem dX4_readCatch_11 : decode cX4_readCatch 11 = .ok (.iconst 0, 1) := by decide +kernel
theorem dX4_readCatch_12 : decode cX4_readCatch 12 = .ok (.aload_n 0, 1) := by decide +kernel
theorem dX4_readCatch_13 : decode cX4_readCatch 13 = .ok (.getfield 27, 3) := by decide +kernel
theorem dX4_readCatch_16 : decode cX4_readCatch 16 = .ok (.getfield 70, 3) := by decide +kernel
theorem dX4_readCatch_19 : decode cX4_readCatch 19 = .ok (.iconst 1, 1) := by decide +kernel
theorem dX4_readCatch_20 : decode cX4_readCatch 20 = .ok (.isub, 1) := by decide +kernel
theorem dX4_readCatch_21 : decode cX4_readCatch 21 = .ok (.invokevirtual 85, 3) := by decide +kernel
theorem dX4_readCatch_24 : decode cX4_readCatch 24 = .ok (.ifCond .ne 5, 3) := by decide +kernel
theorem dX4_readCatch_27 : decode cX4_readCatch 27 = .ok (.iconst 0, 1) := by decide +kernel
theorem dX4_readCatch_28 : decode cX4_readCatch 28 = .ok (.ireturn, 1) := by decide +kernel
theorem dX4_readCatch_29 : decode cX4_readCatch 29 = .ok (.aload_n 0, 1) := by decide +kernel
theorem dX4_readCatch_30 : decode cX4_readCatch 30 = .ok (.getfield 15, 3) := by decide +kernel
theorem dX4_readCatch_33 : decode cX4_readCatch 33 = .ok (.istore_n 1, 1) := by decide +kernel
theorem dX4_readCatch_34 : decode cX4_readCatch 34 = .ok (.iconst 0, 1) := by decide +kernel
theorem dX4_readCatch_35 : decode cX4_readCatch 35 = .ok (.istore_n 2, 1) := by decide +kernel
theorem dX4_readCatch_36 : decode cX4_readCatch 36 = .ok (.iload_n 2, 1) := by decide +kernel
theorem dX4_readCatch_37 : decode cX4_readCatch 37 = .ok (.iconst 4, 1) := by decide +kernel
theorem dX4_readCatch_38 : decode cX4_readCatch 38 = .ok (.if_icmp .ge 37, 3) := by decide +kernel
theorem dX4_readCatch_41 : decode cX4_readCatch 41 = .ok (.aload_n 0, 1) := by decide +kernel
theorem dX4_readCatch_42 : decode cX4_readCatch 42 = .ok (.iconst 0, 1) := by decide +kernel
theorem dX4_readCatch_43 : decode cX4_readCatch 43 = .ok (.bipush 9, 2) := by decide +kernel
theorem dX4_readCatch_45 : decode cX4_readCatch 45 = .ok (.invokevirtual 85, 3) := by decide +kernel
theorem dX4_readCatch_48 : decode cX4_readCatch 48 = .ok (.ifCond .ne 5, 3) := by decide +kernel
theorem dX4_readCatch_51 : decode cX4_readCatch 51 = .ok (.iconst 0, 1) := by decide +kernel
theorem dX4_readCatch_52 : decode cX4_readCatch 52 = .ok (.ireturn, 1) := by decide +kernel
theorem dX4_readCatch_53 : decode cX4_readCatch 53 = .ok (.aload_n 0, 1) := by decide +kernel
theorem dX4_readCatch_54 : decode cX4_readCatch 54 = .ok (.getfield 27, 3) := by decide +kernel
theorem dX4_readCatch_57 : decode cX4_readCatch 57 = .ok (.iload_n 1, 1) := by decide +kernel
theorem dX4_readCatch_58 : decode cX4_readCatch 58 = .ok (.bipush 7, 2) := by decide +kernel
theorem dX4_readCatch_60 : decode cX4_readCatch 60 = .ok (.iload_n 2, 1) := by decide +kernel
theorem dX4_readCatch_61 : decode cX4_readCatch 61 = .ok (.iadd, 1) := by decide +kernel
theorem dX4_readCatch_62 : decode cX4_readCatch 62 = .ok (.aload_n 0, 1) := by decide +kernel
theorem dX4_readCatch_63 : decode cX4_readCatch 63 = .ok (.getfield 15, 3) := by decide +kernel
theorem dX4_readCatch_66 : decode cX4_readCatch 66 = .ok (.invokevirtual 88, 3) := by decide +kernel
theorem dX4_readCatch_69 : decode cX4_readCatch 69 = .ok (.iinc 2 1, 3) := by decide +kernel
theorem dX4_readCatch_72 : decode cX4_readCatch 72 = .ok (.goto (-36), 3) := by decide +kernel
theorem dX4_readCatch_75 : decode cX4_readCatch 75 = .ok (.iconst 1, 1) := by decide +kernel
theorem dX4_readCatch_76 : decode cX4_readCatch 76 = .ok (.ireturn, 1) := by decide +kernel
set_option maxRecDepth 20000 in
theorem ggX4_readLock_X4_takeNumber : GoodIn wsX4_readLock wsX4_takeNumber := goodIn_r _ [8, 9, 2, 3, 10, 11, 12, 13, 14, 30, 31, 32, 33, 43, 44, 45, 46, 47, 48] (by decide +kernel) (by decide +kernel)
set_option maxRecDepth 20000 in
theorem gX4_readLock_X4_takeNumber : GoodIn wsX4_readLock (wsV RX4 85 RX4 yX4_takeNumber wsX4_takeNumber) := goodIn_app (goodIn_of _ (by decide +kernel)) ggX4_readLock_X4_takeNumber
set_option maxRecDepth 20000 in
theorem ggX4_readLock_X6_mostRight : GoodIn wsX4_readLock wsX6_mostRight := goodIn_r _ [16] (by decide +kernel) (by decide +kernel)
set_option maxRecDepth 20000 in
theorem gX4_readLock_X6_mostRight_n95 : GoodIn wsX4_readLock (wsX6_mostRight) := ggX4_readLock_X6_mostRight
set_option maxRecDepth 20000 in
theorem ggX4_readLock_X1_addCondition : GoodIn wsX4_readLock wsX1_addCondition := goodIn_r _ [21, 22, 23, 24, 25, 20, 26, 27, 28, 11, 29, 34, 35, 36, 37, 38, 39, 40, 41, 42] (by decide +kernel) (by decide +kernel)
set_option maxRecDepth 20000 in
theorem gX4_readLock_X1_addCondition : GoodIn wsX4_readLock (wsV RX4 99 RX1 yX1_addCondition wsX1_addCondition) := goodIn_app (goodIn_of _ (by decide +kernel)) ggX4_readLock_X1_addCondition
theorem dX4_readLock_0 : decode cX4_readLock 0 = .ok (.aload_n 0, 1) := by decide +kernel
theorem dX4_readLock_1 : decode cX4_readLock 1 = .ok (.getfield 27, 3) := by decide +kernel
theorem dX4_readLock_4 : decode cX4_readLock 4 = .ok (.getfield 92, 3) := by decide +kernel
theorem dX4_readLock_7 : decode cX4_readLock 7 = .ok (.bipush 8, 2) := by decide +kernel
theorem dX4_readLock_9 : decode cX4_readLock 9 = .ok (.if_icmp .lt 5, 3) := by decide +kernel
theorem dX4_readLock_12 : decode cX4_readLock 12 = .ok (.iconst 0, 1) := by decide +kernel
theorem dX4_readLock_13 : decode cX4_readLock 13 = .ok (.ireturn, 1) := by decide +kernel
theorem dX4_readLock_14 : decode cX4_readLock 14 = .ok (.aload_n 0, 1) := by decide +kernel
theorem dX4_readLock_15 : decode cX4_readLock 15 = .ok (.dup, 1) := by decide +kernel
theorem dX4_readLock_16 : decode cX4_readLock 16 = .ok (.getfield 9, 3) := by decide +kernel
theorem dX4_readLock_19 : decode cX4_readLock 19 = .ok (.iconst 1, 1) := by decide +kernel
theorem dX4_readLock_20 : decode cX4_readLock 20 = .ok (.iadd, 1) := by decide +kernel
theorem dX4_readLock_21 : decode cX4_readLock 21 = .ok (.putfield 9, 3) := by decide +kernel
theorem dX4_readLock_24 : decode cX4_readLock 24 = .ok (.aload_n 0, 1) := by decide +kernel
theorem dX4_readLock_25 : decode cX4_readLock 25 = .ok (.iconst 0, 1) := by decide +kernel
theorem dX4_readLock_26 : decode cX4_readLock 26 = .ok (.iconst 4, 1) := by decide +kernel
theorem dX4_readLock_27 : decode cX4_readLock 27 = .ok (.invokevirtual 85, 3) := by decide +kernel
theorem dX4_readLock_30 : decode cX4_readLock 30 = .ok (.ifCond .ne 5, 3) := by decide +kernel
theorem dX4_readLock_33 : decode cX4_readLock 33 = .ok (.iconst 0, 1) := by decide +kernel
theorem dX4_readLock_34 : decode cX4_readLock 34 = .ok (.ireturn, 1) := by decide +kernel
theorem dX4_readLock_35 : decode cX4_readLock 35 = .ok (.aload_n 0, 1) := by decide +kernel
theorem dX4_readLock_36 : decode cX4_readLock 36 = .ok (.getfield 15, 3) := by decide +kernel
theorem dX4_readLock_39 : decode cX4_readLock 39 = .ok (.istore_n 1, 1) := by decide +kernel
theorem dX4_readLock_40 : decode cX4_readLock 40 = .ok (.aload_n 0, 1) := by decide +kernel
theorem dX4_readLock_41 : decode cX4_readLock 41 = .ok (.iconst 0, 1) := by decide +kernel
theorem dX4_readLock_42 : decode cX4_readLock 42 = .ok (.bipush 7, 2) := by decide +kernel
theorem dX4_readLock_44 : decode cX4_readLock 44 = .ok (.invokevirtual 85, 3) := by decide +kernel
theorem dX4_readLock_47 : decode cX4_readLock 47 = .ok (.ifCond .ne 5, 3) := by decide +kernel
theorem dX4_readLock_50 : decode cX4_readLock 50 = .ok (.iconst 0, 1) := by decide +kernel
theorem dX4_readLock_51 : decode cX4_readLock 51 = .ok (.ireturn, 1) := by decide +kernel
theorem dX4_readLock_52 : decode cX4_readLock 52 = .ok (.aload_n 0, 1) := by decide +kernel
theorem dX4_readLock_53 : decode cX4_readLock 53 = .ok (.getfield 15, 3) := by decide +kernel
theorem dX4_readLock_56 : decode cX4_readLock 56 = .ok (.istore_n 2, 1) := by decide +kernel
theorem dX4_readLock_57 : decode cX4_readLock 57 = .ok (.aload_n 0, 1) := by decide +kernel
theorem dX4_readLock_58 : decode cX4_readLock 58 = .ok (.iconst 0, 1) := by decide +kernel
theorem dX4_readLock_59 : decode cX4_readLock 59 = .ok (.iload_n 1, 1) := by decide +kernel
theorem dX4_readLock_60 : decode cX4_readLock 60 = .ok (.invokestatic 95, 3) := by decide +kernel
theorem dX4_readLock_63 : decode cX4_readLock 63 = .ok (.invokevirtual 85, 3) := by decide +kernel
theorem dX4_readLock_66 : decode cX4_readLock 66 = .ok (.ifCond .ne 5, 3) := by decide +kernel
theorem dX4_readLock_69 : decode cX4_readLock 69 = .ok (.iconst 0, 1) := by decide +kernel
theorem dX4_readLock_70 : decode cX4_readLock 70 = .ok (.ireturn, 1) := by decide +kernel
theorem dX4_readLock_71 : decode cX4_readLock 71 = .ok (.aload_n 0, 1) := by decide +kernel
theorem dX4_readLock_72 : decode cX4_readLock 72 = .ok (.getfield 27, 3) := by decide +kernel
theorem dX4_readLock_75 : decode cX4_readLock 75 = .ok (.iload_n 1, 1) := by decide +kernel
theorem dX4_readLock_76 : decode cX4_readLock 76 = .ok (.iload_n 2, 1) := by decide +kernel
theorem dX4_readLock_77 : decode cX4_readLock 77 = .ok (.aload_n 0, 1) := by decide +kernel
theorem dX4_readLock_78 : decode cX4_readLock 78 = .ok (.getfield 15, 3) := by decide +kernel
theorem dX4_readLock_81 : decode cX4_readLock 81 = .ok (.invokevirtual 99, 3) := by decide +kernel
theorem dX4_readLock_84 : decode cX4_readLock 84 = .ok (.pop, 1) := by decide +kernel
theorem dX4_readLock_85 : decode cX4_readLock 85 = .ok (.iconst 1, 1) := by decide +kernel
theorem dX4_readLock_86 : decode cX4_readLock 86 = .ok (.ireturn, 1) := by decide +kernel
set_option maxRecDepth 20000 in
theorem ggX4_takePart_X4_sortNow : GoodIn wsX4_takePart wsX4_sortNow := goodIn_r _ [7, 8, 1, 9, 10, 11, 18, 19, 20, 21, 22, 23, 24, 25, 26, 27] (by decide +kernel) (by decide +kernel)
set_option maxRecDepth 20000 in
theorem gX4_takePart_X4_sortNow : GoodIn wsX4_takePart (wsV RX4 39 RX4 yX4_sortNow wsX4_sortNow) := goodIn_app (goodIn_of _ (by decide +kernel)) ggX4_takePart_X4_sortNow
set_option maxRecDepth 20000 in
theorem ggX4_takePart_X4_takeNumber : GoodIn wsX4_takePart wsX4_takeNumber := goodIn_r _ [15, 8, 1, 2, 9, 10, 11, 16, 17, 18, 19, 20, 21, 22, 23, 24, 25, 26, 27] (by decide +kernel) (by decide +kernel)
set_option maxRecDepth 20000 in
theorem gX4_takePart_X4_takeNumber : GoodIn wsX4_takePart (wsV RX4 85 RX4 yX4_takeNumber wsX4_takeNumber) := goodIn_app (goodIn_of _ (by decide +kernel)) ggX4_takePart_X4_takeNumber
theorem dX4_takePart_0 : decode cX4_takePart 0 = .ok (.aload_n 0, 1) := by decide +kernel
theorem dX4_takePart_1 : decode cX4_takePart 1 = .ok (.invokevirtual 39, 3) := by decide +kernel
theorem dX4_takePart_4 : decode cX4_takePart 4 = .ok (.iload_n 1, 1) := by decide +kernel
theorem dX4_takePart_5 : decode cX4_takePart 5 = .ok (.if_icmp .ne 20, 3) := by decide +kernel
theorem dX4_takePart_8 : decode cX4_takePart 8 = .ok (.aload_n 0, 1) := by decide +kernel
theorem dX4_takePart_9 : decode cX4_takePart 9 = .ok (.dup, 1) := by decide +kernel
theorem dX4_takePart_10 : decode cX4_takePart 10 = .ok (.getfield 9, 3) := by decide +kernel
theorem dX4_takePart_13 : decode cX4_takePart 13 = .ok (.iconst 1, 1) := by decide +kernel
theorem dX4_takePart_14 : decode cX4_takePart 14 = .ok (.iadd, 1) := by decide +kernel
theorem dX4_takePart_15 : decode cX4_takePart 15 = .ok (.putfield 9, 3) := by decide +kernel
theorem dX4_takePart_18 : decode cX4_takePart 18 = .ok (.aload_n 0, 1) := by decide +kernel
theorem dX4_takePart_19 : decode cX4_takePart 19 = .ok (.iload_n 2, 1) := by decide +kernel
theorem dX4_takePart_20 : decode cX4_takePart 20 = .ok (.iload_n 3, 1) := by decide +kernel
theorem dX4_takePart_21 : decode cX4_takePart 21 = .ok (.invokevirtual 85, 3) := by decide +kernel
theorem dX4_takePart_24 : decode cX4_takePart 24 = .ok (.ireturn, 1) := by decide +kernel
theorem dX4_takePart_25 : decode cX4_takePart 25 = .ok (.aload_n 0, 1) := by decide +kernel
theorem dX4_takePart_26 : decode cX4_takePart 26 = .ok (.iload 4, 2) := by decide +kernel
theorem dX4_takePart_28 : decode cX4_takePart 28 = .ok (.putfield 15, 3) := by decide +kernel
theorem dX4_takePart_31 : decode cX4_takePart 31 = .ok (.iconst 1, 1) := by decide +kernel
theorem dX4_takePart_32 : decode cX4_takePart 32 = .ok (.ireturn, 1) := by decide +kernel
set_option maxRecDepth 20000 in
theorem ggX4_takeNumber_X6_at : GoodIn wsX4_takeNumber wsX6_at := goodIn_r _ [6] (by decide +kernel) (by decide +kernel)
set_option maxRecDepth 20000 in
theorem gX4_takeNumber_X6_at_n47 : GoodIn wsX4_takeNumber (wsX6_at) := ggX4_takeNumber_X6_at
set_option maxRecDepth 20000 in
theorem ggX4_takeNumber_X6_isWithin : GoodIn wsX4_takeNumber wsX6_isWithin := goodIn_r _ [8] (by decide +kernel) (by decide +kernel)
set_option maxRecDepth 20000 in
theorem gX4_takeNumber_X6_isWithin_n106 : GoodIn wsX4_takeNumber (wsX6_isWithin) := ggX4_takeNumber_X6_isWithin
theorem dX4_takeNumber_0 : decode cX4_takeNumber 0 = .ok (.aload_n 0, 1) := by decide +kernel
theorem dX4_takeNumber_1 : decode cX4_takeNumber 1 = .ok (.getfield 23, 3) := by decide +kernel
theorem dX4_takeNumber_4 : decode cX4_takeNumber 4 = .ok (.getfield 103, 3) := by decide +kernel
theorem dX4_takeNumber_7 : decode cX4_takeNumber 7 = .ok (.aload_n 0, 1) := by decide +kernel
theorem dX4_takeNumber_8 : decode cX4_takeNumber 8 = .ok (.getfield 9, 3) := by decide +kernel
theorem dX4_takeNumber_11 : decode cX4_takeNumber 11 = .ok (.invokestatic 47, 3) := by decide +kernel
theorem dX4_takeNumber_14 : decode cX4_takeNumber 14 = .ok (.istore_n 3, 1) := by decide +kernel
theorem dX4_takeNumber_15 : decode cX4_takeNumber 15 = .ok (.aload_n 0, 1) := by decide +kernel
theorem dX4_takeNumber_16 : decode cX4_takeNumber 16 = .ok (.getfield 23, 3) := by decide +kernel
theorem dX4_takeNumber_19 : decode cX4_takeNumber 19 = .ok (.getfield 51, 3) := by decide +kernel
theorem dX4_takeNumber_22 : decode cX4_takeNumber 22 = .ok (.aload_n 0, 1) := by decide +kernel
theorem dX4_takeNumber_23 : decode cX4_takeNumber 23 = .ok (.getfield 9, 3) := by decide +kernel
theorem dX4_takeNumber_26 : decode cX4_takeNumber 26 = .ok (.invokestatic 47, 3) := by decide +kernel
theorem dX4_takeNumber_29 : decode cX4_takeNumber 29 = .ok (.bipush 15, 2) := by decide +kernel
theorem dX4_takeNumber_31 : decode cX4_takeNumber 31 = .ok (.if_icmp .ne 12, 3) := by decide +kernel
theorem dX4_takeNumber_34 : decode cX4_takeNumber 34 = .ok (.iload_n 3, 1) := by decide +kernel
theorem dX4_takeNumber_35 : decode cX4_takeNumber 35 = .ok (.iload_n 1, 1) := by decide +kernel
theorem dX4_takeNumber_36 : decode cX4_takeNumber 36 = .ok (.iload_n 2, 1) := by decide +kernel
theorem dX4_takeNumber_37 : decode cX4_takeNumber 37 = .ok (.invokestatic 106, 3) := by decide +kernel
theorem dX4_takeNumber_40 : decode cX4_takeNumber 40 = .ok (.ifCond .ne 5, 3) := by decide +kernel
theorem dX4_takeNumber_43 : decode cX4_takeNumber 43 = .ok (.iconst 0, 1) := by decide +kernel
theorem dX4_takeNumber_44 : decode cX4_takeNumber 44 = .ok (.ireturn, 1) := by decide +kernel
theorem dX4_takeNumber_45 : decode cX4_takeNumber 45 = .ok (.aload_n 0, 1) := by decide +kernel
theorem dX4_takeNumber_46 : decode cX4_takeNumber 46 = .ok (.iload_n 3, 1) := by decide +kernel
theorem dX4_takeNumber_47 : decode cX4_takeNumber 47 = .ok (.putfield 15, 3) := by decide +kernel
theorem dX4_takeNumber_50 : decode cX4_takeNumber 50 = .ok (.aload_n 0, 1) := by decide +kernel
theorem dX4_takeNumber_51 : decode cX4_takeNumber 51 = .ok (.dup, 1) := by decide +kernel
theorem dX4_takeNumber_52 : decode cX4_takeNumber 52 = .ok (.getfield 9, 3) := by decide +kernel
theorem dX4_takeNumber_55 : decode cX4_takeNumber 55 = .ok (.iconst 1, 1) := by decide +kernel
theorem dX4_takeNumber_56 : decode cX4_takeNumber 56 = .ok (.iadd, 1) := by decide +kernel
theorem dX4_takeNumber_57 : decode cX4_takeNumber 57 = .ok (.putfield 9, 3) := by decide +kernel
theorem dX4_takeNumber_60 : decode cX4_takeNumber 60 = .ok (.iconst 1, 1) := by decide +kernel
theorem dX4_takeNumber_61 : decode cX4_takeNumber 61 = .ok (.ireturn, 1) := by decide +kernel
set_option maxRecDepth 20000 in
theorem ggX4_setTaken_X1_set : GoodIn wsX4_setTaken wsX1_set := goodIn_r _ [7, 8, 13, 14, 15, 16, 17, 18, 19, 20, 21] (by decide +kernel) (by decide +kernel)
set_option maxRecDepth 20000 in
theorem gX4_setTaken_X1_set : GoodIn wsX4_setTaken (wsV RX4 88 RX1 yX1_set wsX1_set) := goodIn_app (goodIn_of _ (by decide +kernel)) ggX4_setTaken_X1_set
theorem dX4_setTaken_0 : decode cX4_setTaken 0 = .ok (.aload_n 0, 1) := by decide +kernel
theorem dX4_setTaken_1 : decode cX4_setTaken 1 = .ok (.getfield 27, 3) := by decide +kernel
theorem dX4_setTaken_4 : decode cX4_setTaken 4 = .ok (.iload_n 1, 1) := by decide +kernel
theorem dX4_setTaken_5 : decode cX4_setTaken 5 = .ok (.iload_n 2, 1) := by decide +kernel
theorem dX4_setTaken_6 : decode cX4_setTaken 6 = .ok (.aload_n 0, 1) := by decide +kernel
theorem dX4_setTaken_7 : decode cX4_setTaken 7 = .ok (.getfield 15, 3) := by decide +kernel
theorem dX4_setTaken_10 : decode cX4_setTaken 10 = .ok (.invokevirtual 88, 3) := by decide +kernel
theorem dX4_setTaken_13 : decode cX4_setTaken 13 = .ok (.iconst 1, 1) := by decide +kernel
theorem dX4_setTaken_14 : decode cX4_setTaken 14 = .ok (.ireturn, 1) := by decide +kernel
theorem dX5_init_0 : decode cX5_init 0 = .ok (.aload_n 0, 1) := by decide +kernel
theorem dX5_init_1 : decode cX5_init 1 = .ok (.invokespecial 3, 3) := by decide +kernel
theorem dX5_init_4 : decode cX5_init 4 = .ok (.aload_n 0, 1) := by decide +kernel
theorem dX5_init_5 : decode cX5_init 5 = .ok (.bipush 121, 2) := by decide +kernel
theorem dX5_init_7 : decode cX5_init 7 = .ok (.newarray .int, 2) := by decide +kernel
theorem dX5_init_9 : decode cX5_init 9 = .ok (.putfield 9, 3) := by decide +kernel
theorem dX5_init_12 : decode cX5_init 12 = .ok (.aload_n 0, 1) := by decide +kernel
theorem dX5_init_13 : decode cX5_init 13 = .ok (.bipush 121, 2) := by decide +kernel
theorem dX5_init_15 : decode cX5_init 15 = .ok (.newarray .int, 2) := by decide +kernel
theorem dX5_init_17 : decode cX5_init 17 = .ok (.putfield 15, 3) := by decide +kernel
theorem dX5_init_20 : decode cX5_init 20 = .ok (.aload_n 0, 1) := by decide +kernel
theorem dX5_init_21 : decode cX5_init 21 = .ok (.bipush 121, 2) := by decide +kernel
theorem dX5_init_23 : decode cX5_init 23 = .ok (.newarray .int, 2) := by decide +kernel
theorem dX5_init_25 : decode cX5_init 25 = .ok (.putfield 18, 3) := by decide +kernel
theorem dX5_init_28 : decode cX5_init 28 = .ok (.aload_n 0, 1) := by decide +kernel
theorem dX5_init_29 : decode cX5_init 29 = .ok (.iconst 0, 1) := by decide +kernel
theorem dX5_init_30 : decode cX5_init 30 = .ok (.putfield 21, 3) := by decide +kernel
theorem dX5_init_33 : decode cX5_init 33 = .ok (.aload_n 0, 1) := by decide +kernel
theorem dX5_init_34 : decode cX5_init 34 = .ok (.iconst 0, 1) := by decide +kernel
theorem dX5_init_35 : decode cX5_init 35 = .ok (.putfield 25, 3) := by decide +kernel
theorem dX5_init_38 : decode cX5_init 38 = .ok (.aload_n 0, 1) := by decide +kernel
theorem dX5_init_39 : decode cX5_init 39 = .ok (.aload_n 1, 1) := by decide +kernel
theorem dX5_init_40 : decode cX5_init 40 = .ok (.putfield 28, 3) := by decide +kernel
theorem dX5_init_43 : decode cX5_init 43 = .ok (.return_, 1) := by decide +kernel
set_option maxRecDepth 20000 in
theorem ggX5_cut_X6_at : GoodIn wsX5_cut wsX6_at := goodIn_r _ [12] (by decide +kernel) (by decide +kernel)
set_option maxRecDepth 20000 in
theorem gX5_cut_X6_at_n37 : GoodIn wsX5_cut (wsX6_at) := ggX5_cut_X6_at
set_option maxRecDepth 20000 in
theorem ggX5_cut_X5_cutToken : GoodIn wsX5_cut wsX5_cutToken := goodIn_r _ [17, 7, 6, 1, 18, 10, 11, 12, 19, 20, 16, 21, 22, 23, 24, 25, 26, 27, 28, 29, 30, 31, 32, 33, 34, 35, 36, 37, 38, 39, 40, 41, 42, 43, 44, 45, 46, 47, 48, 49, 50, 51, 52, 53, 54, 55, 56, 57, 58, 59, 60, 61, 62, 63, 64, 65, 66, 67, 68, 69, 70, 71, 72, 73, 74, 75, 76, 77, 78, 79, 80, 81, 82, 83, 84, 85, 86, 87, 88, 2, 3, 4, 5, 89, 90, 91, 92, 93, 94, 95, 96] (by decide +kernel) (by decide +kernel)
set_option maxRecDepth 20000 in
theorem gX5_cut_X5_cutToken : GoodIn wsX5_cut (wsV RX5 41 RX5 yX5_cutToken wsX5_cutToken) := goodIn_app (goodIn_of _ (by decide +kernel)) ggX5_cut_X5_cutToken
set_option maxRecDepth 20000 in
theorem ggX5_cut_X6_put : GoodIn wsX5_cut wsX6_put := goodIn_r _ [90] (by decide +kernel) (by decide +kernel)
set_option maxRecDepth 20000 in
theorem gX5_cut_X6_put_n45 : GoodIn wsX5_cut (wsX6_put) := ggX5_cut_X6_put
theorem dX5_cut_0 : decode cX5_cut 0 = .ok (.aload_n 0, 1) := by decide +kernel
theorem dX5_cut_1 : decode cX5_cut 1 = .ok (.iload_n 1, 1) := by decide +kernel
theorem dX5_cut_2 : decode cX5_cut 2 = .ok (.aload_n 0, 1) := by decide +kernel
theorem dX5_cut_3 : decode cX5_cut 3 = .ok (.getfield 28, 3) := by decide +kernel
theorem dX5_cut_6 : decode cX5_cut 6 = .ok (.arraylength, 1) := by decide +kernel
theorem dX5_cut_7 : decode cX5_cut 7 = .ok (.invokestatic 31, 3) := by decide +kernel
theorem dX5_cut_10 : decode cX5_cut 10 = .ok (.putfield 21, 3) := by decide +kernel
theorem dX5_cut_13 : decode cX5_cut 13 = .ok (.aload_n 0, 1) := by decide +kernel
theorem dX5_cut_14 : decode cX5_cut 14 = .ok (.iconst 0, 1) := by decide +kernel
theorem dX5_cut_15 : decode cX5_cut 15 = .ok (.putfield 25, 3) := by decide +kernel
theorem dX5_cut_18 : decode cX5_cut 18 = .ok (.iconst 0, 1) := by decide +kernel
theorem dX5_cut_19 : decode cX5_cut 19 = .ok (.istore_n 2, 1) := by decide +kernel
theorem dX5_cut_20 : decode cX5_cut 20 = .ok (.iload_n 2, 1) := by decide +kernel
theorem dX5_cut_21 : decode cX5_cut 21 = .ok (.aload_n 0, 1) := by decide +kernel
theorem dX5_cut_22 : decode cX5_cut 22 = .ok (.getfield 15, 3) := by decide +kernel
theorem dX5_cut_25 : decode cX5_cut 25 = .ok (.arraylength, 1) := by decide +kernel
theorem dX5_cut_26 : decode cX5_cut 26 = .ok (.if_icmp .ge 72, 3) := by decide +kernel
theorem dX5_cut_29 : decode cX5_cut 29 = .ok (.aload_n 0, 1) := by decide +kernel
theorem dX5_cut_30 : decode cX5_cut 30 = .ok (.getfield 25, 3) := by decide +kernel
theorem dX5_cut_33 : decode cX5_cut 33 = .ok (.aload_n 0, 1) := by decide +kernel
theorem dX5_cut_34 : decode cX5_cut 34 = .ok (.getfield 21, 3) := by decide +kernel
theorem dX5_cut_37 : decode cX5_cut 37 = .ok (.if_icmp .ge 32, 3) := by decide +kernel
theorem dX5_cut_40 : decode cX5_cut 40 = .ok (.aload_n 0, 1) := by decide +kernel
theorem dX5_cut_41 : decode cX5_cut 41 = .ok (.getfield 28, 3) := by decide +kernel
theorem dX5_cut_44 : decode cX5_cut 44 = .ok (.aload_n 0, 1) := by decide +kernel
theorem dX5_cut_45 : decode cX5_cut 45 = .ok (.getfield 25, 3) := by decide +kernel
theorem dX5_cut_48 : decode cX5_cut 48 = .ok (.invokestatic 37, 3) := by decide +kernel
theorem dX5_cut_51 : decode cX5_cut 51 = .ok (.bipush 32, 2) := by decide +kernel
theorem dX5_cut_53 : decode cX5_cut 53 = .ok (.if_icmp .ne 16, 3) := by decide +kernel
theorem dX5_cut_56 : decode cX5_cut 56 = .ok (.aload_n 0, 1) := by decide +kernel
theorem dX5_cut_57 : decode cX5_cut 57 = .ok (.dup, 1) := by decide +kernel
theorem dX5_cut_58 : decode cX5_cut 58 = .ok (.getfield 25, 3) := by decide +kernel
theorem dX5_cut_61 : decode cX5_cut 61 = .ok (.iconst 1, 1) := by decide +kernel
theorem dX5_cut_62 : decode cX5_cut 62 = .ok (.iadd, 1) := by decide +kernel
theorem dX5_cut_63 : decode cX5_cut 63 = .ok (.putfield 25, 3) := by decide +kernel
theorem dX5_cut_66 : decode cX5_cut 66 = .ok (.goto (-37), 3) := by decide +kernel
theorem dX5_cut_69 : decode cX5_cut 69 = .ok (.aload_n 0, 1) := by decide +kernel
theorem dX5_cut_70 : decode cX5_cut 70 = .ok (.getfield 15, 3) := by decide +kernel
theorem dX5_cut_73 : decode cX5_cut 73 = .ok (.iload_n 2, 1) := by decide +kernel
theorem dX5_cut_74 : decode cX5_cut 74 = .ok (.aload_n 0, 1) := by decide +kernel
theorem dX5_cut_75 : decode cX5_cut 75 = .ok (.getfield 25, 3) := by decide +kernel
theorem dX5_cut_78 : decode cX5_cut 78 = .ok (.iastore, 1) := by decide +kernel
theorem dX5_cut_79 : decode cX5_cut 79 = .ok (.aload_n 0, 1) := by decide +kernel
theorem dX5_cut_80 : decode cX5_cut 80 = .ok (.getfield 9, 3) := by decide +kernel
theorem dX5_cut_83 : decode cX5_cut 83 = .ok (.iload_n 2, 1) := by decide +kernel
theorem dX5_cut_84 : decode cX5_cut 84 = .ok (.aload_n 0, 1) := by decide +kernel
theorem dX5_cut_85 : decode cX5_cut 85 = .ok (.iload_n 2, 1) := by decide +kernel
theorem dX5_cut_86 : decode cX5_cut 86 = .ok (.invokevirtual 41, 3) := by decide +kernel
theorem dX5_cut_89 : decode cX5_cut 89 = .ok (.invokestatic 45, 3) := by decide +kernel
theorem dX5_cut_92 : decode cX5_cut 92 = .ok (.iinc 2 1, 3) := by decide +kernel
theorem dX5_cut_95 : decode cX5_cut 95 = .ok (.goto (-75), 3) := by decide +kernel
theorem dX5_cut_98 : decode cX5_cut 98 = .ok (.return_, 1) := by decide +kernel
set_option maxRecDepth 20000 in
theorem ggX5_cutToken_X6_at : GoodIn wsX5_cutToken wsX6_at := goodIn_r _ [7] (by decide +kernel) (by decide +kernel)
set_option maxRecDepth 20000 in
theorem gX5_cutToken_X6_at_n37 : GoodIn wsX5_cutToken (wsX6_at) := ggX5_cutToken_X6_at
set_option maxRecDepth 20000 in
theorem ggX5_cutToken_X5_isLetter : GoodIn wsX5_cutToken wsX5_isLetter := goodIn_r _ [11] (by decide +kernel) (by decide +kernel)
set_option maxRecDepth 20000 in
theorem gX5_cutToken_X5_isLetter : GoodIn wsX5_cutToken (va_wsS RX5 49 yX5_isLetter wsX5_isLetter) := goodIn_app (goodIn_of _ (by decide +kernel)) ggX5_cutToken_X5_isLetter
set_option maxRecDepth 20000 in
theorem ggX5_cutToken_X5_sortOfWord : GoodIn wsX5_cutToken wsX5_sortOfWord := goodIn_r _ [15, 16, 17, 10, 18, 19, 20, 21, 22, 1, 3, 23, 24, 25, 26, 27, 28, 29, 30, 31, 32, 33, 34, 5, 6, 7, 35, 36, 37, 38, 39, 40, 41, 42, 43, 44, 45, 46, 47, 48, 49, 50, 51, 52, 53, 54, 55, 56, 57, 58, 59, 60, 61, 62, 63, 64, 65, 66, 67, 68, 69, 70, 71, 85, 86, 87, 88, 89, 90] (by decide +kernel) (by decide +kernel)
set_option maxRecDepth 20000 in
theorem gX5_cutToken_X5_sortOfWord : GoodIn wsX5_cutToken (wsV RX5 53 RX5 yX5_sortOfWord wsX5_sortOfWord) := goodIn_app (goodIn_of _ (by decide +kernel)) ggX5_cutToken_X5_sortOfWord
set_option maxRecDepth 20000 in
theorem ggX5_cutToken_X5_isDigit : GoodIn wsX5_cutToken wsX5_isDigit := goodIn_r _ [74] (by decide +kernel) (by decide +kernel)
set_option maxRecDepth 20000 in
theorem gX5_cutToken_X5_isDigit : GoodIn wsX5_cutToken (va_wsS RX5 56 yX5_isDigit wsX5_isDigit) := goodIn_app (goodIn_of _ (by decide +kernel)) ggX5_cutToken_X5_isDigit
set_option maxRecDepth 20000 in
theorem ggX5_cutToken_X5_cutNumber : GoodIn wsX5_cutToken wsX5_cutNumber := goodIn_r _ [78, 1, 2, 3, 79, 80, 81, 82, 5, 6, 7, 72, 73, 10, 74, 85, 86, 87, 88, 89, 90] (by decide +kernel) (by decide +kernel)
set_option maxRecDepth 20000 in
theorem gX5_cutToken_X5_cutNumber : GoodIn wsX5_cutToken (wsV RX5 59 RX5 yX5_cutNumber wsX5_cutNumber) := goodIn_app (goodIn_of _ (by decide +kernel)) ggX5_cutToken_X5_cutNumber
set_option maxRecDepth 20000 in
theorem ggX5_cutToken_X6_put : GoodIn wsX5_cutToken wsX6_put := goodIn_r _ [84] (by decide +kernel) (by decide +kernel)
set_option maxRecDepth 20000 in
theorem gX5_cutToken_X6_put_n45 : GoodIn wsX5_cutToken (wsX6_put) := ggX5_cutToken_X6_put
theorem dX5_cutToken_0 : decode cX5_cutToken 0 = .ok (.aload_n 0, 1) := by decide +kernel
theorem dX5_cutToken_1 : decode cX5_cutToken 1 = .ok (.getfield 25, 3) := by decide +kernel
theorem dX5_cutToken_4 : decode cX5_cutToken 4 = .ok (.aload_n 0, 1) := by decide +kernel
theorem dX5_cutToken_5 : decode cX5_cutToken 5 = .ok (.getfield 21, 3) := by decide +kernel
theorem dX5_cutToken_8 : decode cX5_cutToken 8 = .ok (.if_icmp .lt 6, 3) := by decide +kernel
theorem dX5_cutToken_11 : decode cX5_cutToken 11 = .ok (.bipush 17, 2) := by decide +kernel
theorem dX5_cutToken_13 : decode cX5_cutToken 13 = .ok (.ireturn, 1) := by decide +kernel
theorem dX5_cutToken_14 : decode cX5_cutToken 14 = .ok (.aload_n 0, 1) := by decide +kernel
theorem dX5_cutToken_15 : decode cX5_cutToken 15 = .ok (.getfield 25, 3) := by decide +kernel
theorem dX5_cutToken_18 : decode cX5_cutToken 18 = .ok (.istore_n 2, 1) := by decide +kernel
theorem dX5_cutToken_19 : decode cX5_cutToken 19 = .ok (.aload_n 0, 1) := by decide +kernel
theorem dX5_cutToken_20 : decode cX5_cutToken 20 = .ok (.getfield 28, 3) := by decide +kernel
theorem dX5_cutToken_23 : decode cX5_cutToken 23 = .ok (.iload_n 2, 1) := by decide +kernel
theorem dX5_cutToken_24 : decode cX5_cutToken 24 = .ok (.invokestatic 37, 3) := by decide +kernel
theorem dX5_cutToken_27 : decode cX5_cutToken 27 = .ok (.invokestatic 49, 3) := by decide +kernel
theorem dX5_cutToken_30 : decode cX5_cutToken 30 = .ok (.ifCond .eq 50, 3) := by decide +kernel
theorem dX5_cutToken_33 : decode cX5_cutToken 33 = .ok (.aload_n 0, 1) := by decide +kernel
theorem dX5_cutToken_34 : decode cX5_cutToken 34 = .ok (.getfield 25, 3) := by decide +kernel
theorem dX5_cutToken_37 : decode cX5_cutToken 37 = .ok (.aload_n 0, 1) := by decide +kernel
theorem dX5_cutToken_38 : decode cX5_cutToken 38 = .ok (.getfield 21, 3) := by decide +kernel
theorem dX5_cutToken_41 : decode cX5_cutToken 41 = .ok (.if_icmp .ge 33, 3) := by decide +kernel
theorem dX5_cutToken_44 : decode cX5_cutToken 44 = .ok (.aload_n 0, 1) := by decide +kernel
theorem dX5_cutToken_45 : decode cX5_cutToken 45 = .ok (.getfield 28, 3) := by decide +kernel
theorem dX5_cutToken_48 : decode cX5_cutToken 48 = .ok (.aload_n 0, 1) := by decide +kernel
theorem dX5_cutToken_49 : decode cX5_cutToken 49 = .ok (.getfield 25, 3) := by decide +kernel
theorem dX5_cutToken_52 : decode cX5_cutToken 52 = .ok (.invokestatic 37, 3) := by decide +kernel
theorem dX5_cutToken_55 : decode cX5_cutToken 55 = .ok (.invokestatic 49, 3) := by decide +kernel
theorem dX5_cutToken_58 : decode cX5_cutToken 58 = .ok (.ifCond .eq 16, 3) := by decide +kernel
theorem dX5_cutToken_61 : decode cX5_cutToken 61 = .ok (.aload_n 0, 1) := by decide +kernel
theorem dX5_cutToken_62 : decode cX5_cutToken 62 = .ok (.dup, 1) := by decide +kernel
theorem dX5_cutToken_63 : decode cX5_cutToken 63 = .ok (.getfield 25, 3) := by decide +kernel
theorem dX5_cutToken_66 : decode cX5_cutToken 66 = .ok (.iconst 1, 1) := by decide +kernel
theorem dX5_cutToken_67 : decode cX5_cutToken 67 = .ok (.iadd, 1) := by decide +kernel
theorem dX5_cutToken_68 : decode cX5_cutToken 68 = .ok (.putfield 25, 3) := by decide +kernel
theorem dX5_cutToken_71 : decode cX5_cutToken 71 = .ok (.goto (-38), 3) := by decide +kernel
theorem dX5_cutToken_74 : decode cX5_cutToken 74 = .ok (.aload_n 0, 1) := by decide +kernel
theorem dX5_cutToken_75 : decode cX5_cutToken 75 = .ok (.iload_n 2, 1) := by decide +kernel
theorem dX5_cutToken_76 : decode cX5_cutToken 76 = .ok (.invokevirtual 53, 3) := by decide +kernel
theorem dX5_cutToken_79 : decode cX5_cutToken 79 = .ok (.ireturn, 1) := by decide +kernel
theorem dX5_cutToken_80 : decode cX5_cutToken 80 = .ok (.aload_n 0, 1) := by decide +kernel
theorem dX5_cutToken_81 : decode cX5_cutToken 81 = .ok (.getfield 28, 3) := by decide +kernel
theorem dX5_cutToken_84 : decode cX5_cutToken 84 = .ok (.iload_n 2, 1) := by decide +kernel
theorem dX5_cutToken_85 : decode cX5_cutToken 85 = .ok (.invokestatic 37, 3) := by decide +kernel
theorem dX5_cutToken_88 : decode cX5_cutToken 88 = .ok (.invokestatic 56, 3) := by decide +kernel
theorem dX5_cutToken_91 : decode cX5_cutToken 91 = .ok (.ifCond .eq 18, 3) := by decide +kernel
theorem dX5_cutToken_94 : decode cX5_cutToken 94 = .ok (.aload_n 0, 1) := by decide +kernel
theorem dX5_cutToken_95 : decode cX5_cutToken 95 = .ok (.getfield 18, 3) := by decide +kernel
theorem dX5_cutToken_98 : decode cX5_cutToken 98 = .ok (.iload_n 1, 1) := by decide +kernel
theorem dX5_cutToken_99 : decode cX5_cutToken 99 = .ok (.aload_n 0, 1) := by decide +kernel
theorem dX5_cutToken_100 : decode cX5_cutToken 100 = .ok (.invokevirtual 59, 3) := by decide +kernel
theorem dX5_cutToken_103 : decode cX5_cutToken 103 = .ok (.invokestatic 45, 3) := by decide +kernel
theorem dX5_cutToken_106 : decode cX5_cutToken 106 = .ok (.bipush 15, 2) := by decide +kernel
theorem dX5_cutToken_108 : decode cX5_cutToken 108 = .ok (.ireturn, 1) := by decide +kernel
theorem dX5_cutToken_109 : decode cX5_cutToken 109 = .ok (.aload_n 0, 1) := by decide +kernel
theorem dX5_cutToken_110 : decode cX5_cutToken 110 = .ok (.dup, 1) := by decide +kernel
theorem dX5_cutToken_111 : decode cX5_cutToken 111 = .ok (.getfield 25, 3) := by decide +kernel
theorem dX5_cutToken_114 : decode cX5_cutToken 114 = .ok (.iconst 1, 1) := by decide +kernel
theorem dX5_cutToken_115 : decode cX5_cutToken 115 = .ok (.iadd, 1) := by decide +kernel
theorem dX5_cutToken_116 : decode cX5_cutToken 116 = .ok (.putfield 25, 3) := by decide +kernel
theorem dX5_cutToken_119 : decode cX5_cutToken 119 = .ok (.aload_n 0, 1) := by decide +kernel
theorem dX5_cutToken_120 : decode cX5_cutToken 120 = .ok (.getfield 28, 3) := by decide +kernel
theorem dX5_cutToken_123 : decode cX5_cutToken 123 = .ok (.iload_n 2, 1) := by decide +kernel
theorem dX5_cutToken_124 : decode cX5_cutToken 124 = .ok (.invokestatic 37, 3) := by decide +kernel
theorem dX5_cutToken_127 : decode cX5_cutToken 127 = .ok (.bipush 59, 2) := by decide +kernel
theorem dX5_cutToken_129 : decode cX5_cutToken 129 = .ok (.if_icmp .ne 8, 3) := by decide +kernel
theorem dX5_cutToken_132 : decode cX5_cutToken 132 = .ok (.bipush 16, 2) := by decide +kernel
theorem dX5_cutToken_134 : decode cX5_cutToken 134 = .ok (.goto 5, 3) := by decide +kernel
theorem dX5_cutToken_137 : decode cX5_cutToken 137 = .ok (.bipush 18, 2) := by decide +kernel
theorem dX5_cutToken_139 : decode cX5_cutToken 139 = .ok (.ireturn, 1) := by decide +kernel
set_option maxRecDepth 20000 in
theorem ggX5_cutNumber_X6_at : GoodIn wsX5_cutNumber wsX6_at := goodIn_r _ [10] (by decide +kernel) (by decide +kernel)
set_option maxRecDepth 20000 in
theorem gX5_cutNumber_X6_at_n37 : GoodIn wsX5_cutNumber (wsX6_at) := ggX5_cutNumber_X6_at
set_option maxRecDepth 20000 in
theorem ggX5_cutNumber_X5_isDigit : GoodIn wsX5_cutNumber wsX5_isDigit := goodIn_r _ [14] (by decide +kernel) (by decide +kernel)
set_option maxRecDepth 20000 in
theorem gX5_cutNumber_X5_isDigit : GoodIn wsX5_cutNumber (va_wsS RX5 56 yX5_isDigit wsX5_isDigit) := goodIn_app (goodIn_of _ (by decide +kernel)) ggX5_cutNumber_X5_isDigit
theorem dX5_cutNumber_0 : decode cX5_cutNumber 0 = .ok (.iconst 0, 1) := by decide +kernel
theorem dX5_cutNumber_1 : decode cX5_cutNumber 1 = .ok (.istore_n 1, 1) := by decide +kernel
theorem dX5_cutNumber_2 : decode cX5_cutNumber 2 = .ok (.aload_n 0, 1) := by decide +kernel
theorem dX5_cutNumber_3 : decode cX5_cutNumber 3 = .ok (.getfield 25, 3) := by decide +kernel
theorem dX5_cutNumber_6 : decode cX5_cutNumber 6 = .ok (.aload_n 0, 1) := by decide +kernel
theorem dX5_cutNumber_7 : decode cX5_cutNumber 7 = .ok (.getfield 21, 3) := by decide +kernel
theorem dX5_cutNumber_10 : decode cX5_cutNumber 10 = .ok (.if_icmp .ge 59, 3) := by decide +kernel
theorem dX5_cutNumber_13 : decode cX5_cutNumber 13 = .ok (.aload_n 0, 1) := by decide +kernel
theorem dX5_cutNumber_14 : decode cX5_cutNumber 14 = .ok (.getfield 28, 3) := by decide +kernel
theorem dX5_cutNumber_17 : decode cX5_cutNumber 17 = .ok (.aload_n 0, 1) := by decide +kernel
theorem dX5_cutNumber_18 : decode cX5_cutNumber 18 = .ok (.getfield 25, 3) := by decide +kernel
theorem dX5_cutNumber_21 : decode cX5_cutNumber 21 = .ok (.invokestatic 37, 3) := by decide +kernel
theorem dX5_cutNumber_24 : decode cX5_cutNumber 24 = .ok (.invokestatic 56, 3) := by decide +kernel
theorem dX5_cutNumber_27 : decode cX5_cutNumber 27 = .ok (.ifCond .eq 42, 3) := by decide +kernel
theorem dX5_cutNumber_30 : decode cX5_cutNumber 30 = .ok (.sipush 1000, 3) := by decide +kernel
theorem dX5_cutNumber_33 : decode cX5_cutNumber 33 = .ok (.bipush 10, 2) := by decide +kernel
theorem dX5_cutNumber_35 : decode cX5_cutNumber 35 = .ok (.iload_n 1, 1) := by decide +kernel
theorem dX5_cutNumber_36 : decode cX5_cutNumber 36 = .ok (.imul, 1) := by decide +kernel
theorem dX5_cutNumber_37 : decode cX5_cutNumber 37 = .ok (.aload_n 0, 1) := by decide +kernel
theorem dX5_cutNumber_38 : decode cX5_cutNumber 38 = .ok (.getfield 28, 3) := by decide +kernel
theorem dX5_cutNumber_41 : decode cX5_cutNumber 41 = .ok (.aload_n 0, 1) := by decide +kernel
theorem dX5_cutNumber_42 : decode cX5_cutNumber 42 = .ok (.getfield 25, 3) := by decide +kernel
theorem dX5_cutNumber_45 : decode cX5_cutNumber 45 = .ok (.invokestatic 37, 3) := by decide +kernel
theorem dX5_cutNumber_48 : decode cX5_cutNumber 48 = .ok (.iadd, 1) := by decide +kernel
theorem dX5_cutNumber_49 : decode cX5_cutNumber 49 = .ok (.bipush 48, 2) := by decide +kernel
theorem dX5_cutNumber_51 : decode cX5_cutNumber 51 = .ok (.isub, 1) := by decide +kernel
theorem dX5_cutNumber_52 : decode cX5_cutNumber 52 = .ok (.invokestatic 31, 3) := by decide +kernel
theorem dX5_cutNumber_55 : decode cX5_cutNumber 55 = .ok (.istore_n 1, 1) := by decide +kernel
theorem dX5_cutNumber_56 : decode cX5_cutNumber 56 = .ok (.aload_n 0, 1) := by decide +kernel
theorem dX5_cutNumber_57 : decode cX5_cutNumber 57 = .ok (.dup, 1) := by decide +kernel
theorem dX5_cutNumber_58 : decode cX5_cutNumber 58 = .ok (.getfield 25, 3) := by decide +kernel
theorem dX5_cutNumber_61 : decode cX5_cutNumber 61 = .ok (.iconst 1, 1) := by decide +kernel
theorem dX5_cutNumber_62 : decode cX5_cutNumber 62 = .ok (.iadd, 1) := by decide +kernel
theorem dX5_cutNumber_63 : decode cX5_cutNumber 63 = .ok (.putfield 25, 3) := by decide +kernel
theorem dX5_cutNumber_66 : decode cX5_cutNumber 66 = .ok (.goto (-64), 3) := by decide +kernel
theorem dX5_cutNumber_69 : decode cX5_cutNumber 69 = .ok (.iload_n 1, 1) := by decide +kernel
theorem dX5_cutNumber_70 : decode cX5_cutNumber 70 = .ok (.ireturn, 1) := by decide +kernel
set_option maxRecDepth 20000 in
theorem ggX5_sortOfWord_X5_letters : GoodIn wsX5_sortOfWord wsX5_letters := goodIn_r _ [4] (by decide +kernel) (by decide +kernel)
set_option maxRecDepth 20000 in
theorem gX5_sortOfWord_X5_letters : GoodIn wsX5_sortOfWord (va_wsS RX5 63 yX5_letters wsX5_letters) := goodIn_app (goodIn_of _ (by decide +kernel)) ggX5_sortOfWord_X5_letters
set_option maxRecDepth 20000 in
theorem ggX5_sortOfWord_X5_isFromTo : GoodIn wsX5_sortOfWord wsX5_isFromTo := goodIn_r _ [8, 9, 10, 11, 12, 13, 14, 15, 16, 17, 18, 19, 20, 21, 22, 23, 24, 25, 26, 27, 28, 29, 30, 31, 32, 33, 34, 35, 36, 37, 38, 39, 40, 41, 42, 43, 44, 45, 46, 47, 48, 49, 50, 51, 52, 53, 54, 55, 56, 57, 58, 59, 60, 61, 62, 63, 64, 65, 66, 67, 68] (by decide +kernel) (by decide +kernel)
set_option maxRecDepth 20000 in
theorem gX5_sortOfWord_X5_isFromTo : GoodIn wsX5_sortOfWord (wsV RX5 67 RX5 yX5_isFromTo wsX5_isFromTo) := goodIn_app (goodIn_of _ (by decide +kernel)) ggX5_sortOfWord_X5_isFromTo
theorem dX5_sortOfWord_0 : decode cX5_sortOfWord 0 = .ok (.iconst 0, 1) := by decide +kernel
theorem dX5_sortOfWord_1 : decode cX5_sortOfWord 1 = .ok (.istore_n 2, 1) := by decide +kernel
theorem dX5_sortOfWord_2 : decode cX5_sortOfWord 2 = .ok (.iload_n 2, 1) := by decide +kernel
theorem dX5_sortOfWord_3 : decode cX5_sortOfWord 3 = .ok (.bipush 15, 2) := by decide +kernel
theorem dX5_sortOfWord_5 : decode cX5_sortOfWord 5 = .ok (.if_icmp .ge 23, 3) := by decide +kernel
theorem dX5_sortOfWord_8 : decode cX5_sortOfWord 8 = .ok (.aload_n 0, 1) := by decide +kernel
theorem dX5_sortOfWord_9 : decode cX5_sortOfWord 9 = .ok (.iload_n 1, 1) := by decide +kernel
theorem dX5_sortOfWord_10 : decode cX5_sortOfWord 10 = .ok (.iload_n 2, 1) := by decide +kernel
theorem dX5_sortOfWord_11 : decode cX5_sortOfWord 11 = .ok (.invokestatic 63, 3) := by decide +kernel
theorem dX5_sortOfWord_14 : decode cX5_sortOfWord 14 = .ok (.invokevirtual 67, 3) := by decide +kernel
theorem dX5_sortOfWord_17 : decode cX5_sortOfWord 17 = .ok (.ifCond .eq 5, 3) := by decide +kernel
theorem dX5_sortOfWord_20 : decode cX5_sortOfWord 20 = .ok (.iload_n 2, 1) := by decide +kernel
theorem dX5_sortOfWord_21 : decode cX5_sortOfWord 21 = .ok (.ireturn, 1) := by decide +kernel
theorem dX5_sortOfWord_22 : decode cX5_sortOfWord 22 = .ok (.iinc 2 1, 3) := by decide +kernel
theorem dX5_sortOfWord_25 : decode cX5_sortOfWord 25 = .ok (.goto (-23), 3) := by decide +kernel
theorem dX5_sortOfWord_28 : decode cX5_sortOfWord 28 = .ok (.bipush 18, 2) := by decide +kernel
theorem dX5_sortOfWord_30 : decode cX5_sortOfWord 30 = .ok (.ireturn, 1) := by decide +kernel
set_option maxRecDepth 20000 in
theorem ggX5_isFromTo_J0_length_8abf5 : GoodIn wsX5_isFromTo wsJ0_length_8abf5 := goodIn_r _ [7, 8, 9, 10, 11, 6, 12, 13, 14] (by decide +kernel) (by decide +kernel)
set_option maxRecDepth 20000 in
theorem gX5_isFromTo_J0_length_8abf5 : GoodIn wsX5_isFromTo (wsV RX5 71 RJ0 yJ0_length_8abf5 wsJ0_length_8abf5) := goodIn_app (goodIn_of _ (by decide +kernel)) ggX5_isFromTo_J0_length_8abf5
set_option maxRecDepth 20000 in
theorem ggX5_isFromTo_X6_at : GoodIn wsX5_isFromTo wsX6_at := goodIn_r _ [17] (by decide +kernel) (by decide +kernel)
set_option maxRecDepth 20000 in
theorem gX5_isFromTo_X6_at_n37 : GoodIn wsX5_isFromTo (wsX6_at) := ggX5_isFromTo_X6_at
set_option maxRecDepth 20000 in
theorem ggX5_isFromTo_J0_charAt_5068e : GoodIn wsX5_isFromTo wsJ0_charAt_5068e := goodIn_r _ [21, 8, 22, 23, 24, 6, 25, 13, 14, 26, 27, 28, 29, 30, 31, 32, 33, 34, 35, 36, 37, 38, 39, 40, 41, 42, 43, 44, 45, 46, 47, 48, 49, 50, 51, 52, 53, 54] (by decide +kernel) (by decide +kernel)
set_option maxRecDepth 20000 in
theorem gX5_isFromTo_J0_charAt_5068e : GoodIn wsX5_isFromTo (wsV RX5 75 RJ0 yJ0_charAt_5068e wsJ0_charAt_5068e) := goodIn_app (goodIn_of _ (by decide +kernel)) ggX5_isFromTo_J0_charAt_5068e
theorem dX5_isFromTo_0 : decode cX5_isFromTo 0 = .ok (.aload_n 0, 1) := by decide +kernel
theorem dX5_isFromTo_1 : decode cX5_isFromTo 1 = .ok (.getfield 25, 3) := by decide +kernel
theorem dX5_isFromTo_4 : decode cX5_isFromTo 4 = .ok (.iload_n 1, 1) := by decide +kernel
theorem dX5_isFromTo_5 : decode cX5_isFromTo 5 = .ok (.isub, 1) := by decide +kernel
theorem dX5_isFromTo_6 : decode cX5_isFromTo 6 = .ok (.aload_n 2, 1) := by decide +kernel
theorem dX5_isFromTo_7 : decode cX5_isFromTo 7 = .ok (.invokevirtual 71, 3) := by decide +kernel
theorem dX5_isFromTo_10 : decode cX5_isFromTo 10 = .ok (.if_icmp .eq 5, 3) := by decide +kernel
theorem dX5_isFromTo_13 : decode cX5_isFromTo 13 = .ok (.iconst 0, 1) := by decide +kernel
theorem dX5_isFromTo_14 : decode cX5_isFromTo 14 = .ok (.ireturn, 1) := by decide +kernel
theorem dX5_isFromTo_15 : decode cX5_isFromTo 15 = .ok (.iconst 0, 1) := by decide +kernel
theorem dX5_isFromTo_16 : decode cX5_isFromTo 16 = .ok (.istore_n 3, 1) := by decide +kernel
theorem dX5_isFromTo_17 : decode cX5_isFromTo 17 = .ok (.iload_n 3, 1) := by decide +kernel
theorem dX5_isFromTo_18 : decode cX5_isFromTo 18 = .ok (.aload_n 2, 1) := by decide +kernel
theorem dX5_isFromTo_19 : decode cX5_isFromTo 19 = .ok (.invokevirtual 71, 3) := by decide +kernel
theorem dX5_isFromTo_22 : decode cX5_isFromTo 22 = .ok (.if_icmp .ge 29, 3) := by decide +kernel
theorem dX5_isFromTo_25 : decode cX5_isFromTo 25 = .ok (.aload_n 0, 1) := by decide +kernel
theorem dX5_isFromTo_26 : decode cX5_isFromTo 26 = .ok (.getfield 28, 3) := by decide +kernel
theorem dX5_isFromTo_29 : decode cX5_isFromTo 29 = .ok (.iload_n 1, 1) := by decide +kernel
theorem dX5_isFromTo_30 : decode cX5_isFromTo 30 = .ok (.iload_n 3, 1) := by decide +kernel
theorem dX5_isFromTo_31 : decode cX5_isFromTo 31 = .ok (.iadd, 1) := by decide +kernel
theorem dX5_isFromTo_32 : decode cX5_isFromTo 32 = .ok (.invokestatic 37, 3) := by decide +kernel
theorem dX5_isFromTo_35 : decode cX5_isFromTo 35 = .ok (.aload_n 2, 1) := by decide +kernel
theorem dX5_isFromTo_36 : decode cX5_isFromTo 36 = .ok (.iload_n 3, 1) := by decide +kernel
theorem dX5_isFromTo_37 : decode cX5_isFromTo 37 = .ok (.invokevirtual 75, 3) := by decide +kernel
theorem dX5_isFromTo_40 : decode cX5_isFromTo 40 = .ok (.if_icmp .eq 5, 3) := by decide +kernel
theorem dX5_isFromTo_43 : decode cX5_isFromTo 43 = .ok (.iconst 0, 1) := by decide +kernel
theorem dX5_isFromTo_44 : decode cX5_isFromTo 44 = .ok (.ireturn, 1) := by decide +kernel
theorem dX5_isFromTo_45 : decode cX5_isFromTo 45 = .ok (.iinc 3 1, 3) := by decide +kernel
theorem dX5_isFromTo_48 : decode cX5_isFromTo 48 = .ok (.goto (-31), 3) := by decide +kernel
theorem dX5_isFromTo_51 : decode cX5_isFromTo 51 = .ok (.iconst 1, 1) := by decide +kernel
theorem dX5_isFromTo_52 : decode cX5_isFromTo 52 = .ok (.ireturn, 1) := by decide +kernel
theorem dX5_letters_0 : decode cX5_letters 0 = .ok (.iload_n 0, 1) := by decide +kernel
theorem dX5_letters_1 : decode cX5_letters 1 = .ok (.tableswitch 113 1 14 #[71, 74, 77, 80, 83, 86, 89, 92, 95, 98, 101, 104, 107, 110], 71) := by decide +kernel
theorem dX5_letters_72 : decode cX5_letters 72 = .ok (.ldc 79, 2) := by decide +kernel
theorem dX5_letters_74 : decode cX5_letters 74 = .ok (.areturn, 1) := by decide +kernel
theorem dX5_letters_75 : decode cX5_letters 75 = .ok (.ldc 81, 2) := by decide +kernel
theorem dX5_letters_77 : decode cX5_letters 77 = .ok (.areturn, 1) := by decide +kernel
theorem dX5_letters_78 : decode cX5_letters 78 = .ok (.ldc 83, 2) := by decide +kernel
theorem dX5_letters_80 : decode cX5_letters 80 = .ok (.areturn, 1) := by decide +kernel
theorem dX5_letters_81 : decode cX5_letters 81 = .ok (.ldc 85, 2) := by decide +kernel
theorem dX5_letters_83 : decode cX5_letters 83 = .ok (.areturn, 1) := by decide +kernel
theorem dX5_letters_84 : decode cX5_letters 84 = .ok (.ldc 87, 2) := by decide +kernel
theorem dX5_letters_86 : decode cX5_letters 86 = .ok (.areturn, 1) := by decide +kernel
theorem dX5_letters_87 : decode cX5_letters 87 = .ok (.ldc 89, 2) := by decide +kernel
theorem dX5_letters_89 : decode cX5_letters 89 = .ok (.areturn, 1) := by decide +kernel
theorem dX5_letters_90 : decode cX5_letters 90 = .ok (.ldc 91, 2) := by decide +kernel
theorem dX5_letters_92 : decode cX5_letters 92 = .ok (.areturn, 1) := by decide +kernel
theorem dX5_letters_93 : decode cX5_letters 93 = .ok (.ldc 93, 2) := by decide +kernel
theorem dX5_letters_95 : decode cX5_letters 95 = .ok (.areturn, 1) := by decide +kernel
theorem dX5_letters_96 : decode cX5_letters 96 = .ok (.ldc 95, 2) := by decide +kernel
theorem dX5_letters_98 : decode cX5_letters 98 = .ok (.areturn, 1) := by decide +kernel
theorem dX5_letters_99 : decode cX5_letters 99 = .ok (.ldc 97, 2) := by decide +kernel
theorem dX5_letters_101 : decode cX5_letters 101 = .ok (.areturn, 1) := by decide +kernel
theorem dX5_letters_102 : decode cX5_letters 102 = .ok (.ldc 99, 2) := by decide +kernel
theorem dX5_letters_104 : decode cX5_letters 104 = .ok (.areturn, 1) := by decide +kernel
theorem dX5_letters_105 : decode cX5_letters 105 = .ok (.ldc 101, 2) := by decide +kernel
theorem dX5_letters_107 : decode cX5_letters 107 = .ok (.areturn, 1) := by decide +kernel
theorem dX5_letters_108 : decode cX5_letters 108 = .ok (.ldc 103, 2) := by decide +kernel
theorem dX5_letters_110 : decode cX5_letters 110 = .ok (.areturn, 1) := by decide +kernel
theorem dX5_letters_111 : decode cX5_letters 111 = .ok (.ldc 105, 2) := by decide +kernel
theorem dX5_letters_113 : decode cX5_letters 113 = .ok (.areturn, 1) := by decide +kernel
theorem dX5_letters_114 : decode cX5_letters 114 = .ok (.ldc 107, 2) := by decide +kernel
theorem dX5_letters_116 : decode cX5_letters 116 = .ok (.areturn, 1) := by decide +kernel
theorem dX5_isLetter_0 : decode cX5_isLetter 0 = .ok (.iload_n 0, 1) := by decide +kernel
theorem dX5_isLetter_1 : decode cX5_isLetter 1 = .ok (.bipush 97, 2) := by decide +kernel
theorem dX5_isLetter_3 : decode cX5_isLetter 3 = .ok (.if_icmp .lt 13, 3) := by decide +kernel
theorem dX5_isLetter_6 : decode cX5_isLetter 6 = .ok (.iload_n 0, 1) := by decide +kernel
theorem dX5_isLetter_7 : decode cX5_isLetter 7 = .ok (.bipush 122, 2) := by decide +kernel
theorem dX5_isLetter_9 : decode cX5_isLetter 9 = .ok (.if_icmp .gt 7, 3) := by decide +kernel
theorem dX5_isLetter_12 : decode cX5_isLetter 12 = .ok (.iconst 1, 1) := by decide +kernel
theorem dX5_isLetter_13 : decode cX5_isLetter 13 = .ok (.goto 4, 3) := by decide +kernel
theorem dX5_isLetter_16 : decode cX5_isLetter 16 = .ok (.iconst 0, 1) := by decide +kernel
theorem dX5_isLetter_17 : decode cX5_isLetter 17 = .ok (.ireturn, 1) := by decide +kernel
theorem dX5_isDigit_0 : decode cX5_isDigit 0 = .ok (.iload_n 0, 1) := by decide +kernel
theorem dX5_isDigit_1 : decode cX5_isDigit 1 = .ok (.bipush 48, 2) := by decide +kernel
theorem dX5_isDigit_3 : decode cX5_isDigit 3 = .ok (.if_icmp .lt 13, 3) := by decide +kernel
theorem dX5_isDigit_6 : decode cX5_isDigit 6 = .ok (.iload_n 0, 1) := by decide +kernel
theorem dX5_isDigit_7 : decode cX5_isDigit 7 = .ok (.bipush 57, 2) := by decide +kernel
theorem dX5_isDigit_9 : decode cX5_isDigit 9 = .ok (.if_icmp .gt 7, 3) := by decide +kernel
theorem dX5_isDigit_12 : decode cX5_isDigit 12 = .ok (.iconst 1, 1) := by decide +kernel
theorem dX5_isDigit_13 : decode cX5_isDigit 13 = .ok (.goto 4, 3) := by decide +kernel
theorem dX5_isDigit_16 : decode cX5_isDigit 16 = .ok (.iconst 0, 1) := by decide +kernel
theorem dX5_isDigit_17 : decode cX5_isDigit 17 = .ok (.ireturn, 1) := by decide +kernel
set_option maxRecDepth 20000 in
theorem ggX6_init_X1_init : GoodIn wsX6_init wsX1_init := goodIn_r _ [32, 33, 2, 3, 18, 34, 35, 36, 37, 38, 39, 40, 41, 42, 89, 90, 91, 92, 93, 94, 95, 96, 97] (by decide +kernel) (by decide +kernel)
set_option maxRecDepth 20000 in
theorem gX6_init_X1_init_n9 : GoodIn wsX6_init (wsX1_init) := ggX6_init_X1_init
set_option maxRecDepth 20000 in
theorem ggX6_init_X3_init : GoodIn wsX6_init wsX3_init := goodIn_r _ [45, 46, 2, 3, 18, 47, 48, 49, 50, 51, 52, 53, 54, 109, 110, 111, 112, 113, 114, 115, 116] (by decide +kernel) (by decide +kernel)
set_option maxRecDepth 20000 in
theorem gX6_init_X3_init : GoodIn wsX6_init (wsX3_init) := ggX6_init_X3_init
set_option maxRecDepth 20000 in
theorem ggX6_init_X0_init : GoodIn wsX6_init wsX0_init := goodIn_r _ [57, 58, 2, 3, 18, 59, 60, 61, 117, 118, 119] (by decide +kernel) (by decide +kernel)
set_option maxRecDepth 20000 in
theorem gX6_init_X0_init : GoodIn wsX6_init (wsX0_init) := ggX6_init_X0_init
set_option maxRecDepth 20000 in
theorem ggX6_init_X4_init : GoodIn wsX6_init wsX4_init := goodIn_r _ [64, 65, 2, 3, 66, 67, 68, 69, 70, 71, 72, 73, 74, 75, 76, 18, 77, 78, 79, 80, 81, 82, 120, 121, 122, 123, 127, 128, 129, 130, 131, 132] (by decide +kernel) (by decide +kernel)
set_option maxRecDepth 20000 in
theorem gX6_init_X4_init : GoodIn wsX6_init (wsX4_init) := ggX6_init_X4_init
set_option maxRecDepth 20000 in
theorem ggX6_init_X2_init : GoodIn wsX6_init wsX2_init := goodIn_r _ [84, 85, 2, 3, 18, 86, 87, 88, 124, 125, 126] (by decide +kernel) (by decide +kernel)
set_option maxRecDepth 20000 in
theorem gX6_init_X2_init_n53 : GoodIn wsX6_init (wsX2_init) := ggX6_init_X2_init
