set_option maxRecDepth 20000 in
theorem ggX0_init_X1_init : GoodIn wsX0_init wsX1_init := goodIn_r _ [12, 13, 2, 3, 8, 14, 15, 16, 17] (by decide +kernel) (by decide +kernel)
set_option maxRecDepth 20000 in
theorem gX0_init_X1_init : GoodIn wsX0_init (wsX1_init) := ggX0_init_X1_init
theorem dX0_init_0 : decode cX0_init 0 = .ok (.aload_n 0, 1) := by decide +kernel
theorem dX0_init_1 : decode cX0_init 1 = .ok (.invokespecial 3, 3) := by decide +kernel
theorem dX0_init_4 : decode cX0_init 4 = .ok (.aload_n 0, 1) := by decide +kernel
theorem dX0_init_5 : decode cX0_init 5 = .ok (.new 9, 3) := by decide +kernel
theorem dX0_init_8 : decode cX0_init 8 = .ok (.dup, 1) := by decide +kernel
theorem dX0_init_9 : decode cX0_init 9 = .ok (.invokespecial 11, 3) := by decide +kernel
theorem dX0_init_12 : decode cX0_init 12 = .ok (.putfield 12, 3) := by decide +kernel
theorem dX0_init_15 : decode cX0_init 15 = .ok (.aload_n 0, 1) := by decide +kernel
theorem dX0_init_16 : decode cX0_init 16 = .ok (.bipush 40, 2) := by decide +kernel
theorem dX0_init_18 : decode cX0_init 18 = .ok (.newarray .int, 2) := by decide +kernel
theorem dX0_init_20 : decode cX0_init 20 = .ok (.putfield 18, 3) := by decide +kernel
theorem dX0_init_23 : decode cX0_init 23 = .ok (.return_, 1) := by decide +kernel
set_option maxRecDepth 20000 in
theorem ggX0_sewOn_X1_append : GoodIn wsX0_sewOn wsX1_append := goodIn_r _ [6, 7, 8, 37, 38] (by decide +kernel) (by decide +kernel)
set_option maxRecDepth 20000 in
theorem gX0_sewOn_X1_append : GoodIn wsX0_sewOn (wsV RX0 22 RX1 yX1_append wsX1_append) := goodIn_app (goodIn_of _ (by decide +kernel)) ggX0_sewOn_X1_append
set_option maxRecDepth 20000 in
theorem ggX0_sewOn_X0_orderEnds : GoodIn wsX0_sewOn wsX0_orderEnds := goodIn_r _ [13, 1, 14, 15, 16, 17, 12, 18, 19, 20, 21, 5, 22, 23, 24, 25, 26, 7, 27, 28, 29, 30, 31, 32, 33, 34, 8, 35, 36, 37, 38] (by decide +kernel) (by decide +kernel)
set_option maxRecDepth 20000 in
theorem gX0_sewOn_X0_orderEnds : GoodIn wsX0_sewOn (wsV RX0 26 RX0 yX0_orderEnds wsX0_orderEnds) := goodIn_app (goodIn_of _ (by decide +kernel)) ggX0_sewOn_X0_orderEnds
theorem dX0_sewOn_0 : decode cX0_sewOn 0 = .ok (.aload_n 0, 1) := by decide +kernel
theorem dX0_sewOn_1 : decode cX0_sewOn 1 = .ok (.getfield 12, 3) := by decide +kernel
theorem dX0_sewOn_4 : decode cX0_sewOn 4 = .ok (.iload_n 1, 1) := by decide +kernel
theorem dX0_sewOn_5 : decode cX0_sewOn 5 = .ok (.invokevirtual 22, 3) := by decide +kernel
theorem dX0_sewOn_8 : decode cX0_sewOn 8 = .ok (.aload_n 0, 1) := by decide +kernel
theorem dX0_sewOn_9 : decode cX0_sewOn 9 = .ok (.invokevirtual 26, 3) := by decide +kernel
theorem dX0_sewOn_12 : decode cX0_sewOn 12 = .ok (.return_, 1) := by decide +kernel
set_option maxRecDepth 20000 in
theorem ggX0_sewBeginning_X1_at : GoodIn wsX0_sewBeginning wsX1_at := goodIn_r _ [6, 7, 8, 38, 39] (by decide +kernel) (by decide +kernel)
set_option maxRecDepth 20000 in
theorem gX0_sewBeginning_X1_at : GoodIn wsX0_sewBeginning (wsV RX0 29 RX1 yX1_at wsX1_at) := goodIn_app (goodIn_of _ (by decide +kernel)) ggX0_sewBeginning_X1_at
set_option maxRecDepth 20000 in
theorem ggX0_sewBeginning_X1_append : GoodIn wsX0_sewBeginning wsX1_append := goodIn_r _ [12, 7, 8, 38, 39] (by decide +kernel) (by decide +kernel)
set_option maxRecDepth 20000 in
theorem gX0_sewBeginning_X1_append : GoodIn wsX0_sewBeginning (wsV RX0 22 RX1 yX1_append wsX1_append) := goodIn_app (goodIn_of _ (by decide +kernel)) ggX0_sewBeginning_X1_append
set_option maxRecDepth 20000 in
theorem ggX0_sewBeginning_X0_orderEnds : GoodIn wsX0_sewBeginning wsX0_orderEnds := goodIn_r _ [17, 1, 18, 19, 20, 21, 16, 22, 23, 24, 25, 5, 26, 27, 28, 29, 30, 7, 31, 32, 33, 34, 35, 3, 4, 6, 8, 36, 37, 38, 39] (by decide +kernel) (by decide +kernel)
set_option maxRecDepth 20000 in
theorem gX0_sewBeginning_X0_orderEnds : GoodIn wsX0_sewBeginning (wsV RX0 26 RX0 yX0_orderEnds wsX0_orderEnds) := goodIn_app (goodIn_of _ (by decide +kernel)) ggX0_sewBeginning_X0_orderEnds
theorem dX0_sewBeginning_0 : decode cX0_sewBeginning 0 = .ok (.iconst 0, 1) := by decide +kernel
theorem dX0_sewBeginning_1 : decode cX0_sewBeginning 1 = .ok (.istore_n 2, 1) := by decide +kernel
theorem dX0_sewBeginning_2 : decode cX0_sewBeginning 2 = .ok (.iload_n 2, 1) := by decide +kernel
theorem dX0_sewBeginning_3 : decode cX0_sewBeginning 3 = .ok (.iload_n 1, 1) := by decide +kernel
theorem dX0_sewBeginning_4 : decode cX0_sewBeginning 4 = .ok (.if_icmp .ge 24, 3) := by decide +kernel
theorem dX0_sewBeginning_7 : decode cX0_sewBeginning 7 = .ok (.aload_n 0, 1) := by decide +kernel
theorem dX0_sewBeginning_8 : decode cX0_sewBeginning 8 = .ok (.getfield 12, 3) := by decide +kernel
theorem dX0_sewBeginning_11 : decode cX0_sewBeginning 11 = .ok (.aload_n 0, 1) := by decide +kernel
theorem dX0_sewBeginning_12 : decode cX0_sewBeginning 12 = .ok (.getfield 12, 3) := by decide +kernel
theorem dX0_sewBeginning_15 : decode cX0_sewBeginning 15 = .ok (.iload_n 2, 1) := by decide +kernel
theorem dX0_sewBeginning_16 : decode cX0_sewBeginning 16 = .ok (.invokevirtual 29, 3) := by decide +kernel
theorem dX0_sewBeginning_19 : decode cX0_sewBeginning 19 = .ok (.invokevirtual 22, 3) := by decide +kernel
theorem dX0_sewBeginning_22 : decode cX0_sewBeginning 22 = .ok (.iinc 2 1, 3) := by decide +kernel
theorem dX0_sewBeginning_25 : decode cX0_sewBeginning 25 = .ok (.goto (-23), 3) := by decide +kernel
theorem dX0_sewBeginning_28 : decode cX0_sewBeginning 28 = .ok (.aload_n 0, 1) := by decide +kernel
theorem dX0_sewBeginning_29 : decode cX0_sewBeginning 29 = .ok (.invokevirtual 26, 3) := by decide +kernel
theorem dX0_sewBeginning_32 : decode cX0_sewBeginning 32 = .ok (.return_, 1) := by decide +kernel
set_option maxRecDepth 20000 in
theorem ggX0_takeOff_X1_drop : GoodIn wsX0_takeOff wsX1_drop := goodIn_r _ [6, 7, 37, 38] (by decide +kernel) (by decide +kernel)
set_option maxRecDepth 20000 in
theorem gX0_takeOff_X1_drop : GoodIn wsX0_takeOff (wsV RX0 33 RX1 yX1_drop wsX1_drop) := goodIn_app (goodIn_of _ (by decide +kernel)) ggX0_takeOff_X1_drop
set_option maxRecDepth 20000 in
theorem ggX0_takeOff_X0_orderEnds : GoodIn wsX0_takeOff wsX0_orderEnds := goodIn_r _ [12, 1, 13, 14, 15, 16, 11, 17, 18, 19, 20, 5, 21, 22, 23, 24, 25, 7, 26, 27, 28, 29, 30, 31, 32, 33, 34, 35, 36, 37, 38] (by decide +kernel) (by decide +kernel)
set_option maxRecDepth 20000 in
theorem gX0_takeOff_X0_orderEnds : GoodIn wsX0_takeOff (wsV RX0 26 RX0 yX0_orderEnds wsX0_orderEnds) := goodIn_app (goodIn_of _ (by decide +kernel)) ggX0_takeOff_X0_orderEnds
theorem dX0_takeOff_0 : decode cX0_takeOff 0 = .ok (.aload_n 0, 1) := by decide +kernel
theorem dX0_takeOff_1 : decode cX0_takeOff 1 = .ok (.getfield 12, 3) := by decide +kernel
theorem dX0_takeOff_4 : decode cX0_takeOff 4 = .ok (.iload_n 1, 1) := by decide +kernel
theorem dX0_takeOff_5 : decode cX0_takeOff 5 = .ok (.invokevirtual 33, 3) := by decide +kernel
theorem dX0_takeOff_8 : decode cX0_takeOff 8 = .ok (.aload_n 0, 1) := by decide +kernel
theorem dX0_takeOff_9 : decode cX0_takeOff 9 = .ok (.invokevirtual 26, 3) := by decide +kernel
theorem dX0_takeOff_12 : decode cX0_takeOff 12 = .ok (.return_, 1) := by decide +kernel
set_option maxRecDepth 20000 in
theorem ggX0_orderEnds_X0_putInOrder : GoodIn wsX0_orderEnds wsX0_putInOrder := goodIn_r _ [7, 1, 2, 8, 9, 10, 11, 12, 13, 14, 15, 16, 17, 18, 19, 20, 21, 22, 23, 24, 25, 26, 27, 28, 29, 30] (by decide +kernel) (by decide +kernel)
set_option maxRecDepth 20000 in
theorem gX0_orderEnds_X0_putInOrder : GoodIn wsX0_orderEnds (wsV RX0 40 RX0 yX0_putInOrder wsX0_putInOrder) := goodIn_app (goodIn_of _ (by decide +kernel)) ggX0_orderEnds_X0_putInOrder
theorem dX0_orderEnds_0 : decode cX0_orderEnds 0 = .ok (.iconst 0, 1) := by decide +kernel
theorem dX0_orderEnds_1 : decode cX0_orderEnds 1 = .ok (.istore_n 1, 1) := by decide +kernel
theorem dX0_orderEnds_2 : decode cX0_orderEnds 2 = .ok (.iload_n 1, 1) := by decide +kernel
theorem dX0_orderEnds_3 : decode cX0_orderEnds 3 = .ok (.aload_n 0, 1) := by decide +kernel
theorem dX0_orderEnds_4 : decode cX0_orderEnds 4 = .ok (.getfield 12, 3) := by decide +kernel
theorem dX0_orderEnds_7 : decode cX0_orderEnds 7 = .ok (.getfield 36, 3) := by decide +kernel
theorem dX0_orderEnds_10 : decode cX0_orderEnds 10 = .ok (.if_icmp .ge 34, 3) := by decide +kernel
theorem dX0_orderEnds_13 : decode cX0_orderEnds 13 = .ok (.iload_n 1, 1) := by decide +kernel
theorem dX0_orderEnds_14 : decode cX0_orderEnds 14 = .ok (.aload_n 0, 1) := by decide +kernel
theorem dX0_orderEnds_15 : decode cX0_orderEnds 15 = .ok (.getfield 18, 3) := by decide +kernel
theorem dX0_orderEnds_18 : decode cX0_orderEnds 18 = .ok (.arraylength, 1) := by decide +kernel
theorem dX0_orderEnds_19 : decode cX0_orderEnds 19 = .ok (.if_icmp .ge 25, 3) := by decide +kernel
theorem dX0_orderEnds_22 : decode cX0_orderEnds 22 = .ok (.aload_n 0, 1) := by decide +kernel
theorem dX0_orderEnds_23 : decode cX0_orderEnds 23 = .ok (.aload_n 0, 1) := by decide +kernel
theorem dX0_orderEnds_24 : decode cX0_orderEnds 24 = .ok (.getfield 12, 3) := by decide +kernel
theorem dX0_orderEnds_27 : decode cX0_orderEnds 27 = .ok (.getfield 36, 3) := by decide +kernel
theorem dX0_orderEnds_30 : decode cX0_orderEnds 30 = .ok (.iconst 1, 1) := by decide +kernel
theorem dX0_orderEnds_31 : decode cX0_orderEnds 31 = .ok (.isub, 1) := by decide +kernel
theorem dX0_orderEnds_32 : decode cX0_orderEnds 32 = .ok (.iload_n 1, 1) := by decide +kernel
theorem dX0_orderEnds_33 : decode cX0_orderEnds 33 = .ok (.isub, 1) := by decide +kernel
theorem dX0_orderEnds_34 : decode cX0_orderEnds 34 = .ok (.iload_n 1, 1) := by decide +kernel
theorem dX0_orderEnds_35 : decode cX0_orderEnds 35 = .ok (.invokevirtual 40, 3) := by decide +kernel
theorem dX0_orderEnds_38 : decode cX0_orderEnds 38 = .ok (.iinc 1 1, 3) := by decide +kernel
theorem dX0_orderEnds_41 : decode cX0_orderEnds 41 = .ok (.goto (-39), 3) := by decide +kernel
theorem dX0_orderEnds_44 : decode cX0_orderEnds 44 = .ok (.return_, 1) := by decide +kernel
set_option maxRecDepth 20000 in
theorem ggX0_putInOrder_X1_difference : GoodIn wsX0_putInOrder wsX1_difference := goodIn_r _ [7, 8, 9, 10, 6, 11, 12, 13, 14, 15, 16, 17, 18, 19, 20, 21, 24, 25] (by decide +kernel) (by decide +kernel)
set_option maxRecDepth 20000 in
theorem gX0_putInOrder_X1_difference : GoodIn wsX0_putInOrder (wsV RX0 44 RX1 yX1_difference wsX1_difference) := goodIn_app (goodIn_of _ (by decide +kernel)) ggX0_putInOrder_X1_difference
theorem dX0_putInOrder_0 : decode cX0_putInOrder 0 = .ok (.iload_n 2, 1) := by decide +kernel
theorem dX0_putInOrder_1 : decode cX0_putInOrder 1 = .ok (.istore_n 3, 1) := by decide +kernel
theorem dX0_putInOrder_2 : decode cX0_putInOrder 2 = .ok (.iload_n 3, 1) := by decide +kernel
theorem dX0_putInOrder_3 : decode cX0_putInOrder 3 = .ok (.ifCond .le 46, 3) := by decide +kernel
theorem dX0_putInOrder_6 : decode cX0_putInOrder 6 = .ok (.aload_n 0, 1) := by decide +kernel
theorem dX0_putInOrder_7 : decode cX0_putInOrder 7 = .ok (.getfield 12, 3) := by decide +kernel
theorem dX0_putInOrder_10 : decode cX0_putInOrder 10 = .ok (.iload_n 1, 1) := by decide +kernel
theorem dX0_putInOrder_11 : decode cX0_putInOrder 11 = .ok (.aload_n 0, 1) := by decide +kernel
theorem dX0_putInOrder_12 : decode cX0_putInOrder 12 = .ok (.getfield 12, 3) := by decide +kernel
theorem dX0_putInOrder_15 : decode cX0_putInOrder 15 = .ok (.aload_n 0, 1) := by decide +kernel
theorem dX0_putInOrder_16 : decode cX0_putInOrder 16 = .ok (.getfield 18, 3) := by decide +kernel
theorem dX0_putInOrder_19 : decode cX0_putInOrder 19 = .ok (.iload_n 3, 1) := by decide +kernel
theorem dX0_putInOrder_20 : decode cX0_putInOrder 20 = .ok (.iconst 1, 1) := by decide +kernel
theorem dX0_putInOrder_21 : decode cX0_putInOrder 21 = .ok (.isub, 1) := by decide +kernel
theorem dX0_putInOrder_22 : decode cX0_putInOrder 22 = .ok (.iaload, 1) := by decide +kernel
theorem dX0_putInOrder_23 : decode cX0_putInOrder 23 = .ok (.invokevirtual 44, 3) := by decide +kernel
theorem dX0_putInOrder_26 : decode cX0_putInOrder 26 = .ok (.ifCond .ge 23, 3) := by decide +kernel
theorem dX0_putInOrder_29 : decode cX0_putInOrder 29 = .ok (.aload_n 0, 1) := by decide +kernel
theorem dX0_putInOrder_30 : decode cX0_putInOrder 30 = .ok (.getfield 18, 3) := by decide +kernel
theorem dX0_putInOrder_33 : decode cX0_putInOrder 33 = .ok (.iload_n 3, 1) := by decide +kernel
theorem dX0_putInOrder_34 : decode cX0_putInOrder 34 = .ok (.aload_n 0, 1) := by decide +kernel
theorem dX0_putInOrder_35 : decode cX0_putInOrder 35 = .ok (.getfield 18, 3) := by decide +kernel
theorem dX0_putInOrder_38 : decode cX0_putInOrder 38 = .ok (.iload_n 3, 1) := by decide +kernel
theorem dX0_putInOrder_39 : decode cX0_putInOrder 39 = .ok (.iconst 1, 1) := by decide +kernel
theorem dX0_putInOrder_40 : decode cX0_putInOrder 40 = .ok (.isub, 1) := by decide +kernel
theorem dX0_putInOrder_41 : decode cX0_putInOrder 41 = .ok (.iaload, 1) := by decide +kernel
theorem dX0_putInOrder_42 : decode cX0_putInOrder 42 = .ok (.iastore, 1) := by decide +kernel
theorem dX0_putInOrder_43 : decode cX0_putInOrder 43 = .ok (.iinc 3 (-1), 3) := by decide +kernel
theorem dX0_putInOrder_46 : decode cX0_putInOrder 46 = .ok (.goto (-44), 3) := by decide +kernel
theorem dX0_putInOrder_49 : decode cX0_putInOrder 49 = .ok (.aload_n 0, 1) := by decide +kernel
theorem dX0_putInOrder_50 : decode cX0_putInOrder 50 = .ok (.getfield 18, 3) := by decide +kernel
theorem dX0_putInOrder_53 : decode cX0_putInOrder 53 = .ok (.iload_n 3, 1) := by decide +kernel
theorem dX0_putInOrder_54 : decode cX0_putInOrder 54 = .ok (.iload_n 1, 1) := by decide +kernel
theorem dX0_putInOrder_55 : decode cX0_putInOrder 55 = .ok (.iastore, 1) := by decide +kernel
theorem dX0_putInOrder_56 : decode cX0_putInOrder 56 = .ok (.return_, 1) := by decide +kernel
theorem dX0_placeAt_0 : decode cX0_placeAt 0 = .ok (.iload_n 1, 1) := by decide +kernel
theorem dX0_placeAt_1 : decode cX0_placeAt 1 = .ok (.ifCond .lt 23, 3) := by decide +kernel
theorem dX0_placeAt_4 : decode cX0_placeAt 4 = .ok (.iload_n 1, 1) := by decide +kernel
theorem dX0_placeAt_5 : decode cX0_placeAt 5 = .ok (.aload_n 0, 1) := by decide +kernel
theorem dX0_placeAt_6 : decode cX0_placeAt 6 = .ok (.getfield 12, 3) := by decide +kernel
theorem dX0_placeAt_9 : decode cX0_placeAt 9 = .ok (.getfield 36, 3) := by decide +kernel
theorem dX0_placeAt_12 : decode cX0_placeAt 12 = .ok (.if_icmp .ge 12, 3) := by decide +kernel
theorem dX0_placeAt_15 : decode cX0_placeAt 15 = .ok (.iload_n 1, 1) := by decide +kernel
theorem dX0_placeAt_16 : decode cX0_placeAt 16 = .ok (.aload_n 0, 1) := by decide +kernel
theorem dX0_placeAt_17 : decode cX0_placeAt 17 = .ok (.getfield 18, 3) := by decide +kernel
theorem dX0_placeAt_20 : decode cX0_placeAt 20 = .ok (.arraylength, 1) := by decide +kernel
theorem dX0_placeAt_21 : decode cX0_placeAt 21 = .ok (.if_icmp .lt 5, 3) := by decide +kernel
theorem dX0_placeAt_24 : decode cX0_placeAt 24 = .ok (.iconst (-1), 1) := by decide +kernel
theorem dX0_placeAt_25 : decode cX0_placeAt 25 = .ok (.ireturn, 1) := by decide +kernel
theorem dX0_placeAt_26 : decode cX0_placeAt 26 = .ok (.aload_n 0, 1) := by decide +kernel
theorem dX0_placeAt_27 : decode cX0_placeAt 27 = .ok (.getfield 18, 3) := by decide +kernel
theorem dX0_placeAt_30 : decode cX0_placeAt 30 = .ok (.iload_n 1, 1) := by decide +kernel
theorem dX0_placeAt_31 : decode cX0_placeAt 31 = .ok (.iaload, 1) := by decide +kernel
theorem dX0_placeAt_32 : decode cX0_placeAt 32 = .ok (.ireturn, 1) := by decide +kernel
set_option maxRecDepth 20000 in
theorem ggX0_rankOf_X0_placeAt : GoodIn wsX0_rankOf wsX0_placeAt := goodIn_r _ [6, 1, 7, 8, 9, 10, 11] (by decide +kernel) (by decide +kernel)
set_option maxRecDepth 20000 in
theorem gX0_rankOf_X0_placeAt : GoodIn wsX0_rankOf (wsV RX0 48 RX0 yX0_placeAt wsX0_placeAt) := goodIn_app (goodIn_of _ (by decide +kernel)) ggX0_rankOf_X0_placeAt
theorem dX0_rankOf_0 : decode cX0_rankOf 0 = .ok (.iconst 0, 1) := by decide +kernel
theorem dX0_rankOf_1 : decode cX0_rankOf 1 = .ok (.istore_n 2, 1) := by decide +kernel
theorem dX0_rankOf_2 : decode cX0_rankOf 2 = .ok (.iload_n 2, 1) := by decide +kernel
theorem dX0_rankOf_3 : decode cX0_rankOf 3 = .ok (.aload_n 0, 1) := by decide +kernel
theorem dX0_rankOf_4 : decode cX0_rankOf 4 = .ok (.getfield 12, 3) := by decide +kernel
theorem dX0_rankOf_7 : decode cX0_rankOf 7 = .ok (.getfield 36, 3) := by decide +kernel
theorem dX0_rankOf_10 : decode cX0_rankOf 10 = .ok (.if_icmp .ge 20, 3) := by decide +kernel
theorem dX0_rankOf_13 : decode cX0_rankOf 13 = .ok (.aload_n 0, 1) := by decide +kernel
theorem dX0_rankOf_14 : decode cX0_rankOf 14 = .ok (.iload_n 2, 1) := by decide +kernel
theorem dX0_rankOf_15 : decode cX0_rankOf 15 = .ok (.invokevirtual 48, 3) := by decide +kernel
theorem dX0_rankOf_18 : decode cX0_rankOf 18 = .ok (.iload_n 1, 1) := by decide +kernel
theorem dX0_rankOf_19 : decode cX0_rankOf 19 = .ok (.if_icmp .ne 5, 3) := by decide +kernel
theorem dX0_rankOf_22 : decode cX0_rankOf 22 = .ok (.iload_n 2, 1) := by decide +kernel
theorem dX0_rankOf_23 : decode cX0_rankOf 23 = .ok (.ireturn, 1) := by decide +kernel
theorem dX0_rankOf_24 : decode cX0_rankOf 24 = .ok (.iinc 2 1, 3) := by decide +kernel
theorem dX0_rankOf_27 : decode cX0_rankOf 27 = .ok (.goto (-25), 3) := by decide +kernel
theorem dX0_rankOf_30 : decode cX0_rankOf 30 = .ok (.iconst (-1), 1) := by decide +kernel
theorem dX0_rankOf_31 : decode cX0_rankOf 31 = .ok (.ireturn, 1) := by decide +kernel
set_option maxRecDepth 20000 in
theorem ggX0_sharedWithNext_X0_placeAt : GoodIn wsX0_sharedWithNext wsX0_placeAt := goodIn_r _ [6, 1, 7, 23, 24, 25, 26] (by decide +kernel) (by decide +kernel)
set_option maxRecDepth 20000 in
theorem gX0_sharedWithNext_X0_placeAt : GoodIn wsX0_sharedWithNext (wsV RX0 48 RX0 yX0_placeAt wsX0_placeAt) := goodIn_app (goodIn_of _ (by decide +kernel)) ggX0_sharedWithNext_X0_placeAt
set_option maxRecDepth 20000 in
theorem ggX0_sharedWithNext_X1_sharedWith : GoodIn wsX0_sharedWithNext wsX1_sharedWith := goodIn_r _ [12, 13, 14, 15, 16, 17, 18, 19, 20, 11, 21, 22, 25, 26] (by decide +kernel) (by decide +kernel)
set_option maxRecDepth 20000 in
theorem gX0_sharedWithNext_X1_sharedWith : GoodIn wsX0_sharedWithNext (wsV RX0 51 RX1 yX1_sharedWith wsX1_sharedWith) := goodIn_app (goodIn_of _ (by decide +kernel)) ggX0_sharedWithNext_X1_sharedWith
theorem dX0_sharedWithNext_0 : decode cX0_sharedWithNext 0 = .ok (.aload_n 0, 1) := by decide +kernel
theorem dX0_sharedWithNext_1 : decode cX0_sharedWithNext 1 = .ok (.iload_n 1, 1) := by decide +kernel
theorem dX0_sharedWithNext_2 : decode cX0_sharedWithNext 2 = .ok (.invokevirtual 48, 3) := by decide +kernel
theorem dX0_sharedWithNext_5 : decode cX0_sharedWithNext 5 = .ok (.istore_n 2, 1) := by decide +kernel
theorem dX0_sharedWithNext_6 : decode cX0_sharedWithNext 6 = .ok (.aload_n 0, 1) := by decide +kernel
theorem dX0_sharedWithNext_7 : decode cX0_sharedWithNext 7 = .ok (.iload_n 1, 1) := by decide +kernel
theorem dX0_sharedWithNext_8 : decode cX0_sharedWithNext 8 = .ok (.iconst 1, 1) := by decide +kernel
theorem dX0_sharedWithNext_9 : decode cX0_sharedWithNext 9 = .ok (.iadd, 1) := by decide +kernel
theorem dX0_sharedWithNext_10 : decode cX0_sharedWithNext 10 = .ok (.invokevirtual 48, 3) := by decide +kernel
theorem dX0_sharedWithNext_13 : decode cX0_sharedWithNext 13 = .ok (.istore_n 3, 1) := by decide +kernel
theorem dX0_sharedWithNext_14 : decode cX0_sharedWithNext 14 = .ok (.iload_n 2, 1) := by decide +kernel
theorem dX0_sharedWithNext_15 : decode cX0_sharedWithNext 15 = .ok (.iconst (-1), 1) := by decide +kernel
theorem dX0_sharedWithNext_16 : decode cX0_sharedWithNext 16 = .ok (.if_icmp .eq 8, 3) := by decide +kernel
theorem dX0_sharedWithNext_19 : decode cX0_sharedWithNext 19 = .ok (.iload_n 3, 1) := by decide +kernel
theorem dX0_sharedWithNext_20 : decode cX0_sharedWithNext 20 = .ok (.iconst (-1), 1) := by decide +kernel
theorem dX0_sharedWithNext_21 : decode cX0_sharedWithNext 21 = .ok (.if_icmp .ne 5, 3) := by decide +kernel
theorem dX0_sharedWithNext_24 : decode cX0_sharedWithNext 24 = .ok (.iconst 0, 1) := by decide +kernel
theorem dX0_sharedWithNext_25 : decode cX0_sharedWithNext 25 = .ok (.ireturn, 1) := by decide +kernel
theorem dX0_sharedWithNext_26 : decode cX0_sharedWithNext 26 = .ok (.aload_n 0, 1) := by decide +kernel
theorem dX0_sharedWithNext_27 : decode cX0_sharedWithNext 27 = .ok (.getfield 12, 3) := by decide +kernel
theorem dX0_sharedWithNext_30 : decode cX0_sharedWithNext 30 = .ok (.iload_n 2, 1) := by decide +kernel
theorem dX0_sharedWithNext_31 : decode cX0_sharedWithNext 31 = .ok (.aload_n 0, 1) := by decide +kernel
theorem dX0_sharedWithNext_32 : decode cX0_sharedWithNext 32 = .ok (.getfield 12, 3) := by decide +kernel
theorem dX0_sharedWithNext_35 : decode cX0_sharedWithNext 35 = .ok (.iload_n 3, 1) := by decide +kernel
theorem dX0_sharedWithNext_36 : decode cX0_sharedWithNext 36 = .ok (.invokevirtual 51, 3) := by decide +kernel
theorem dX0_sharedWithNext_39 : decode cX0_sharedWithNext 39 = .ok (.ireturn, 1) := by decide +kernel
theorem dX0_neighbourPairs_0 : decode cX0_neighbourPairs 0 = .ok (.aload_n 0, 1) := by decide +kernel
theorem dX0_neighbourPairs_1 : decode cX0_neighbourPairs 1 = .ok (.getfield 12, 3) := by decide +kernel
theorem dX0_neighbourPairs_4 : decode cX0_neighbourPairs 4 = .ok (.getfield 36, 3) := by decide +kernel
theorem dX0_neighbourPairs_7 : decode cX0_neighbourPairs 7 = .ok (.ifCond .ne 7, 3) := by decide +kernel
theorem dX0_neighbourPairs_10 : decode cX0_neighbourPairs 10 = .ok (.iconst 0, 1) := by decide +kernel
theorem dX0_neighbourPairs_11 : decode cX0_neighbourPairs 11 = .ok (.goto 12, 3) := by decide +kernel
theorem dX0_neighbourPairs_14 : decode cX0_neighbourPairs 14 = .ok (.aload_n 0, 1) := by decide +kernel
theorem dX0_neighbourPairs_15 : decode cX0_neighbourPairs 15 = .ok (.getfield 12, 3) := by decide +kernel
theorem dX0_neighbourPairs_18 : decode cX0_neighbourPairs 18 = .ok (.getfield 36, 3) := by decide +kernel
theorem dX0_neighbourPairs_21 : decode cX0_neighbourPairs 21 = .ok (.iconst 1, 1) := by decide +kernel
theorem dX0_neighbourPairs_22 : decode cX0_neighbourPairs 22 = .ok (.isub, 1) := by decide +kernel
theorem dX0_neighbourPairs_23 : decode cX0_neighbourPairs 23 = .ok (.ireturn, 1) := by decide +kernel
set_option maxRecDepth 20000 in
theorem ggX0_sharedByNeighbours_X0_sharedWithNext : GoodIn wsX0_sharedByNeighbours wsX0_sharedWithNext := goodIn_r _ [6, 1, 7, 8, 9, 5, 10, 11, 12, 13, 14, 15, 16, 17, 18, 19, 20, 21, 22, 23, 24, 25, 26, 27, 28, 29, 30] (by decide +kernel) (by decide +kernel)
set_option maxRecDepth 20000 in
theorem gX0_sharedByNeighbours_X0_sharedWithNext : GoodIn wsX0_sharedByNeighbours (wsV RX0 54 RX0 yX0_sharedWithNext wsX0_sharedWithNext) := goodIn_app (goodIn_of _ (by decide +kernel)) ggX0_sharedByNeighbours_X0_sharedWithNext
theorem dX0_sharedByNeighbours_0 : decode cX0_sharedByNeighbours 0 = .ok (.iconst 0, 1) := by decide +kernel
theorem dX0_sharedByNeighbours_1 : decode cX0_sharedByNeighbours 1 = .ok (.istore_n 1, 1) := by decide +kernel
theorem dX0_sharedByNeighbours_2 : decode cX0_sharedByNeighbours 2 = .ok (.iconst 0, 1) := by decide +kernel
theorem dX0_sharedByNeighbours_3 : decode cX0_sharedByNeighbours 3 = .ok (.istore_n 2, 1) := by decide +kernel
theorem dX0_sharedByNeighbours_4 : decode cX0_sharedByNeighbours 4 = .ok (.iload_n 2, 1) := by decide +kernel
theorem dX0_sharedByNeighbours_5 : decode cX0_sharedByNeighbours 5 = .ok (.aload_n 0, 1) := by decide +kernel
theorem dX0_sharedByNeighbours_6 : decode cX0_sharedByNeighbours 6 = .ok (.getfield 12, 3) := by decide +kernel
theorem dX0_sharedByNeighbours_9 : decode cX0_sharedByNeighbours 9 = .ok (.getfield 36, 3) := by decide +kernel
theorem dX0_sharedByNeighbours_12 : decode cX0_sharedByNeighbours 12 = .ok (.if_icmp .ge 17, 3) := by decide +kernel
theorem dX0_sharedByNeighbours_15 : decode cX0_sharedByNeighbours 15 = .ok (.iload_n 1, 1) := by decide +kernel
theorem dX0_sharedByNeighbours_16 : decode cX0_sharedByNeighbours 16 = .ok (.aload_n 0, 1) := by decide +kernel
theorem dX0_sharedByNeighbours_17 : decode cX0_sharedByNeighbours 17 = .ok (.iload_n 2, 1) := by decide +kernel
theorem dX0_sharedByNeighbours_18 : decode cX0_sharedByNeighbours 18 = .ok (.invokevirtual 54, 3) := by decide +kernel
theorem dX0_sharedByNeighbours_21 : decode cX0_sharedByNeighbours 21 = .ok (.iadd, 1) := by decide +kernel
theorem dX0_sharedByNeighbours_22 : decode cX0_sharedByNeighbours 22 = .ok (.istore_n 1, 1) := by decide +kernel
theorem dX0_sharedByNeighbours_23 : decode cX0_sharedByNeighbours 23 = .ok (.iinc 2 1, 3) := by decide +kernel
theorem dX0_sharedByNeighbours_26 : decode cX0_sharedByNeighbours 26 = .ok (.goto (-22), 3) := by decide +kernel
theorem dX0_sharedByNeighbours_29 : decode cX0_sharedByNeighbours 29 = .ok (.iload_n 1, 1) := by decide +kernel
theorem dX0_sharedByNeighbours_30 : decode cX0_sharedByNeighbours 30 = .ok (.ireturn, 1) := by decide +kernel
set_option maxRecDepth 20000 in
theorem ggX0_rowsFirstAt_X0_placeAt : GoodIn wsX0_rowsFirstAt wsX0_placeAt := goodIn_r _ [6, 1, 7, 27, 28, 29, 30] (by decide +kernel) (by decide +kernel)
set_option maxRecDepth 20000 in
theorem gX0_rowsFirstAt_X0_placeAt : GoodIn wsX0_rowsFirstAt (wsV RX0 48 RX0 yX0_placeAt wsX0_placeAt) := goodIn_app (goodIn_of _ (by decide +kernel)) ggX0_rowsFirstAt_X0_placeAt
set_option maxRecDepth 20000 in
theorem ggX0_rowsFirstAt_X0_sharedWithNext : GoodIn wsX0_rowsFirstAt wsX0_sharedWithNext := goodIn_r _ [11, 1, 2, 3, 4, 5, 6, 7, 12, 13, 14, 15, 16, 17, 18, 19, 20, 21, 22, 23, 24, 25, 26, 27, 28, 29, 30] (by decide +kernel) (by decide +kernel)
set_option maxRecDepth 20000 in
theorem gX0_rowsFirstAt_X0_sharedWithNext : GoodIn wsX0_rowsFirstAt (wsV RX0 54 RX0 yX0_sharedWithNext wsX0_sharedWithNext) := goodIn_app (goodIn_of _ (by decide +kernel)) ggX0_rowsFirstAt_X0_sharedWithNext
theorem dX0_rowsFirstAt_0 : decode cX0_rowsFirstAt 0 = .ok (.aload_n 0, 1) := by decide +kernel
theorem dX0_rowsFirstAt_1 : decode cX0_rowsFirstAt 1 = .ok (.getfield 12, 3) := by decide +kernel
theorem dX0_rowsFirstAt_4 : decode cX0_rowsFirstAt 4 = .ok (.getfield 36, 3) := by decide +kernel
theorem dX0_rowsFirstAt_7 : decode cX0_rowsFirstAt 7 = .ok (.aload_n 0, 1) := by decide +kernel
theorem dX0_rowsFirstAt_8 : decode cX0_rowsFirstAt 8 = .ok (.iload_n 1, 1) := by decide +kernel
theorem dX0_rowsFirstAt_9 : decode cX0_rowsFirstAt 9 = .ok (.invokevirtual 48, 3) := by decide +kernel
theorem dX0_rowsFirstAt_12 : decode cX0_rowsFirstAt 12 = .ok (.isub, 1) := by decide +kernel
theorem dX0_rowsFirstAt_13 : decode cX0_rowsFirstAt 13 = .ok (.aload_n 0, 1) := by decide +kernel
theorem dX0_rowsFirstAt_14 : decode cX0_rowsFirstAt 14 = .ok (.iload_n 1, 1) := by decide +kernel
theorem dX0_rowsFirstAt_15 : decode cX0_rowsFirstAt 15 = .ok (.iconst 1, 1) := by decide +kernel
theorem dX0_rowsFirstAt_16 : decode cX0_rowsFirstAt 16 = .ok (.isub, 1) := by decide +kernel
theorem dX0_rowsFirstAt_17 : decode cX0_rowsFirstAt 17 = .ok (.invokevirtual 54, 3) := by decide +kernel
theorem dX0_rowsFirstAt_20 : decode cX0_rowsFirstAt 20 = .ok (.isub, 1) := by decide +kernel
theorem dX0_rowsFirstAt_21 : decode cX0_rowsFirstAt 21 = .ok (.ireturn, 1) := by decide +kernel
set_option maxRecDepth 20000 in
theorem ggX0_differentRows_X0_rowsFirstAt : GoodIn wsX0_differentRows wsX0_rowsFirstAt := goodIn_r _ [6, 1, 7, 8, 9, 5, 10, 11, 12, 13, 14, 15, 16, 17, 18, 19, 20, 21, 22, 23, 24, 25, 26, 27, 28, 29, 30, 31, 32, 33, 34] (by decide +kernel) (by decide +kernel)
set_option maxRecDepth 20000 in
theorem gX0_differentRows_X0_rowsFirstAt : GoodIn wsX0_differentRows (wsV RX0 57 RX0 yX0_rowsFirstAt wsX0_rowsFirstAt) := goodIn_app (goodIn_of _ (by decide +kernel)) ggX0_differentRows_X0_rowsFirstAt
theorem dX0_differentRows_0 : decode cX0_differentRows 0 = .ok (.iconst 0, 1) := by decide +kernel
theorem dX0_differentRows_1 : decode cX0_differentRows 1 = .ok (.istore_n 1, 1) := by decide +kernel
theorem dX0_differentRows_2 : decode cX0_differentRows 2 = .ok (.iconst 0, 1) := by decide +kernel
theorem dX0_differentRows_3 : decode cX0_differentRows 3 = .ok (.istore_n 2, 1) := by decide +kernel
theorem dX0_differentRows_4 : decode cX0_differentRows 4 = .ok (.iload_n 2, 1) := by decide +kernel
theorem dX0_differentRows_5 : decode cX0_differentRows 5 = .ok (.aload_n 0, 1) := by decide +kernel
theorem dX0_differentRows_6 : decode cX0_differentRows 6 = .ok (.getfield 12, 3) := by decide +kernel
theorem dX0_differentRows_9 : decode cX0_differentRows 9 = .ok (.getfield 36, 3) := by decide +kernel
theorem dX0_differentRows_12 : decode cX0_differentRows 12 = .ok (.if_icmp .ge 17, 3) := by decide +kernel
theorem dX0_differentRows_15 : decode cX0_differentRows 15 = .ok (.iload_n 1, 1) := by decide +kernel
theorem dX0_differentRows_16 : decode cX0_differentRows 16 = .ok (.aload_n 0, 1) := by decide +kernel
theorem dX0_differentRows_17 : decode cX0_differentRows 17 = .ok (.iload_n 2, 1) := by decide +kernel
theorem dX0_differentRows_18 : decode cX0_differentRows 18 = .ok (.invokevirtual 57, 3) := by decide +kernel
theorem dX0_differentRows_21 : decode cX0_differentRows 21 = .ok (.iadd, 1) := by decide +kernel
theorem dX0_differentRows_22 : decode cX0_differentRows 22 = .ok (.istore_n 1, 1) := by decide +kernel
theorem dX0_differentRows_23 : decode cX0_differentRows 23 = .ok (.iinc 2 1, 3) := by decide +kernel
theorem dX0_differentRows_26 : decode cX0_differentRows 26 = .ok (.goto (-22), 3) := by decide +kernel
theorem dX0_differentRows_29 : decode cX0_differentRows 29 = .ok (.iload_n 1, 1) := by decide +kernel
theorem dX0_differentRows_30 : decode cX0_differentRows 30 = .ok (.ireturn, 1) := by decide +kernel
set_option maxRecDepth 20000 in
theorem ggX0_rowOfNumber_X0_rowsFirstAt : GoodIn wsX0_rowOfNumber wsX0_rowsFirstAt := goodIn_r _ [6, 1, 7, 8, 9, 5, 10, 11, 12, 13, 14, 15, 16, 17, 18, 19, 20, 21, 22, 23, 24, 25, 26, 27, 28, 29, 30, 40, 41, 42, 43] (by decide +kernel) (by decide +kernel)
set_option maxRecDepth 20000 in
theorem gX0_rowOfNumber_X0_rowsFirstAt : GoodIn wsX0_rowOfNumber (wsV RX0 57 RX0 yX0_rowsFirstAt wsX0_rowsFirstAt) := goodIn_app (goodIn_of _ (by decide +kernel)) ggX0_rowOfNumber_X0_rowsFirstAt
set_option maxRecDepth 20000 in
theorem ggX0_rowOfNumber_X0_sharedWithNext : GoodIn wsX0_rowOfNumber wsX0_sharedWithNext := goodIn_r _ [15, 1, 7, 8, 9, 5, 10, 11, 16, 17, 18, 19, 20, 21, 22, 23, 24, 25, 26, 27, 28, 29, 30, 40, 41, 42, 43] (by decide +kernel) (by decide +kernel)
set_option maxRecDepth 20000 in
theorem gX0_rowOfNumber_X0_sharedWithNext : GoodIn wsX0_rowOfNumber (wsV RX0 54 RX0 yX0_sharedWithNext wsX0_sharedWithNext) := goodIn_app (goodIn_of _ (by decide +kernel)) ggX0_rowOfNumber_X0_sharedWithNext
set_option maxRecDepth 20000 in
theorem ggX0_rowOfNumber_X0_placeAt : GoodIn wsX0_rowOfNumber wsX0_placeAt := goodIn_r _ [10, 1, 11, 40, 41, 42, 43] (by decide +kernel) (by decide +kernel)
set_option maxRecDepth 20000 in
theorem gX0_rowOfNumber_X0_placeAt : GoodIn wsX0_rowOfNumber (wsV RX0 48 RX0 yX0_placeAt wsX0_placeAt) := goodIn_app (goodIn_of _ (by decide +kernel)) ggX0_rowOfNumber_X0_placeAt
set_option maxRecDepth 20000 in
theorem ggX0_rowOfNumber_X1_firstPlaceOf : GoodIn wsX0_rowOfNumber wsX1_firstPlaceOf := goodIn_r _ [34, 21, 35, 36, 37, 19, 38, 39, 17, 18, 20, 22, 23, 24, 25, 26, 27, 28, 29, 30, 42, 43] (by decide +kernel) (by decide +kernel)
set_option maxRecDepth 20000 in
theorem gX0_rowOfNumber_X1_firstPlaceOf : GoodIn wsX0_rowOfNumber (wsV RX0 60 RX1 yX1_firstPlaceOf wsX1_firstPlaceOf) := goodIn_app (goodIn_of _ (by decide +kernel)) ggX0_rowOfNumber_X1_firstPlaceOf
theorem dX0_rowOfNumber_0 : decode cX0_rowOfNumber 0 = .ok (.iload_n 1, 1) := by decide +kernel
theorem dX0_rowOfNumber_1 : decode cX0_rowOfNumber 1 = .ok (.istore_n 2, 1) := by decide +kernel
theorem dX0_rowOfNumber_2 : decode cX0_rowOfNumber 2 = .ok (.iconst 0, 1) := by decide +kernel
theorem dX0_rowOfNumber_3 : decode cX0_rowOfNumber 3 = .ok (.istore_n 3, 1) := by decide +kernel
theorem dX0_rowOfNumber_4 : decode cX0_rowOfNumber 4 = .ok (.iload_n 3, 1) := by decide +kernel
theorem dX0_rowOfNumber_5 : decode cX0_rowOfNumber 5 = .ok (.aload_n 0, 1) := by decide +kernel
theorem dX0_rowOfNumber_6 : decode cX0_rowOfNumber 6 = .ok (.getfield 12, 3) := by decide +kernel
theorem dX0_rowOfNumber_9 : decode cX0_rowOfNumber 9 = .ok (.getfield 36, 3) := by decide +kernel
theorem dX0_rowOfNumber_12 : decode cX0_rowOfNumber 12 = .ok (.if_icmp .ge 65, 3) := by decide +kernel
theorem dX0_rowOfNumber_15 : decode cX0_rowOfNumber 15 = .ok (.aload_n 0, 1) := by decide +kernel
theorem dX0_rowOfNumber_16 : decode cX0_rowOfNumber 16 = .ok (.iload_n 3, 1) := by decide +kernel
theorem dX0_rowOfNumber_17 : decode cX0_rowOfNumber 17 = .ok (.invokevirtual 57, 3) := by decide +kernel
theorem dX0_rowOfNumber_20 : decode cX0_rowOfNumber 20 = .ok (.istore 4, 2) := by decide +kernel
theorem dX0_rowOfNumber_22 : decode cX0_rowOfNumber 22 = .ok (.iload_n 2, 1) := by decide +kernel
theorem dX0_rowOfNumber_23 : decode cX0_rowOfNumber 23 = .ok (.iload 4, 2) := by decide +kernel
theorem dX0_rowOfNumber_25 : decode cX0_rowOfNumber 25 = .ok (.if_icmp .ge 41, 3) := by decide +kernel
theorem dX0_rowOfNumber_28 : decode cX0_rowOfNumber 28 = .ok (.aload_n 0, 1) := by decide +kernel
theorem dX0_rowOfNumber_29 : decode cX0_rowOfNumber 29 = .ok (.iload_n 3, 1) := by decide +kernel
theorem dX0_rowOfNumber_30 : decode cX0_rowOfNumber 30 = .ok (.iconst 1, 1) := by decide +kernel
theorem dX0_rowOfNumber_31 : decode cX0_rowOfNumber 31 = .ok (.isub, 1) := by decide +kernel
theorem dX0_rowOfNumber_32 : decode cX0_rowOfNumber 32 = .ok (.invokevirtual 54, 3) := by decide +kernel
theorem dX0_rowOfNumber_35 : decode cX0_rowOfNumber 35 = .ok (.iload_n 2, 1) := by decide +kernel
theorem dX0_rowOfNumber_36 : decode cX0_rowOfNumber 36 = .ok (.iadd, 1) := by decide +kernel
theorem dX0_rowOfNumber_37 : decode cX0_rowOfNumber 37 = .ok (.iconst 1, 1) := by decide +kernel
theorem dX0_rowOfNumber_38 : decode cX0_rowOfNumber 38 = .ok (.iadd, 1) := by decide +kernel
theorem dX0_rowOfNumber_39 : decode cX0_rowOfNumber 39 = .ok (.istore 5, 2) := by decide +kernel
theorem dX0_rowOfNumber_41 : decode cX0_rowOfNumber 41 = .ok (.bipush 64, 2) := by decide +kernel
theorem dX0_rowOfNumber_43 : decode cX0_rowOfNumber 43 = .ok (.aload_n 0, 1) := by decide +kernel
theorem dX0_rowOfNumber_44 : decode cX0_rowOfNumber 44 = .ok (.getfield 12, 3) := by decide +kernel
theorem dX0_rowOfNumber_47 : decode cX0_rowOfNumber 47 = .ok (.aload_n 0, 1) := by decide +kernel
theorem dX0_rowOfNumber_48 : decode cX0_rowOfNumber 48 = .ok (.getfield 12, 3) := by decide +kernel
theorem dX0_rowOfNumber_51 : decode cX0_rowOfNumber 51 = .ok (.aload_n 0, 1) := by decide +kernel
theorem dX0_rowOfNumber_52 : decode cX0_rowOfNumber 52 = .ok (.iload_n 3, 1) := by decide +kernel
theorem dX0_rowOfNumber_53 : decode cX0_rowOfNumber 53 = .ok (.invokevirtual 48, 3) := by decide +kernel
theorem dX0_rowOfNumber_56 : decode cX0_rowOfNumber 56 = .ok (.iload 5, 2) := by decide +kernel
theorem dX0_rowOfNumber_58 : decode cX0_rowOfNumber 58 = .ok (.invokevirtual 60, 3) := by decide +kernel
theorem dX0_rowOfNumber_61 : decode cX0_rowOfNumber 61 = .ok (.imul, 1) := by decide +kernel
theorem dX0_rowOfNumber_62 : decode cX0_rowOfNumber 62 = .ok (.iload 5, 2) := by decide +kernel
theorem dX0_rowOfNumber_64 : decode cX0_rowOfNumber 64 = .ok (.iadd, 1) := by decide +kernel
theorem dX0_rowOfNumber_65 : decode cX0_rowOfNumber 65 = .ok (.ireturn, 1) := by decide +kernel
theorem dX0_rowOfNumber_66 : decode cX0_rowOfNumber 66 = .ok (.iload_n 2, 1) := by decide +kernel
theorem dX0_rowOfNumber_67 : decode cX0_rowOfNumber 67 = .ok (.iload 4, 2) := by decide +kernel
theorem dX0_rowOfNumber_69 : decode cX0_rowOfNumber 69 = .ok (.isub, 1) := by decide +kernel
theorem dX0_rowOfNumber_70 : decode cX0_rowOfNumber 70 = .ok (.istore_n 2, 1) := by decide +kernel
theorem dX0_rowOfNumber_71 : decode cX0_rowOfNumber 71 = .ok (.iinc 3 1, 3) := by decide +kernel
theorem dX0_rowOfNumber_74 : decode cX0_rowOfNumber 74 = .ok (.goto (-70), 3) := by decide +kernel
theorem dX0_rowOfNumber_77 : decode cX0_rowOfNumber 77 = .ok (.iconst (-1), 1) := by decide +kernel
theorem dX0_rowOfNumber_78 : decode cX0_rowOfNumber 78 = .ok (.ireturn, 1) := by decide +kernel
set_option maxRecDepth 20000 in
theorem ggX0_repeatRank_X0_sharedWithNext : GoodIn wsX0_repeatRank wsX0_sharedWithNext := goodIn_r _ [6, 1, 7, 8, 9, 5, 10, 11, 12, 13, 14, 15, 16, 17, 18, 19, 20, 21, 22, 23, 24, 25, 26, 27, 28, 29, 30] (by decide +kernel) (by decide +kernel)
set_option maxRecDepth 20000 in
theorem gX0_repeatRank_X0_sharedWithNext : GoodIn wsX0_repeatRank (wsV RX0 54 RX0 yX0_sharedWithNext wsX0_sharedWithNext) := goodIn_app (goodIn_of _ (by decide +kernel)) ggX0_repeatRank_X0_sharedWithNext
theorem dX0_repeatRank_0 : decode cX0_repeatRank 0 = .ok (.iconst (-1), 1) := by decide +kernel
theorem dX0_repeatRank_1 : decode cX0_repeatRank 1 = .ok (.istore_n 1, 1) := by decide +kernel
theorem dX0_repeatRank_2 : decode cX0_repeatRank 2 = .ok (.iconst 0, 1) := by decide +kernel
theorem dX0_repeatRank_3 : decode cX0_repeatRank 3 = .ok (.istore_n 2, 1) := by decide +kernel
theorem dX0_repeatRank_4 : decode cX0_repeatRank 4 = .ok (.iconst 0, 1) := by decide +kernel
theorem dX0_repeatRank_5 : decode cX0_repeatRank 5 = .ok (.istore_n 3, 1) := by decide +kernel
theorem dX0_repeatRank_6 : decode cX0_repeatRank 6 = .ok (.iload_n 3, 1) := by decide +kernel
theorem dX0_repeatRank_7 : decode cX0_repeatRank 7 = .ok (.aload_n 0, 1) := by decide +kernel
theorem dX0_repeatRank_8 : decode cX0_repeatRank 8 = .ok (.getfield 12, 3) := by decide +kernel
theorem dX0_repeatRank_11 : decode cX0_repeatRank 11 = .ok (.getfield 36, 3) := by decide +kernel
theorem dX0_repeatRank_14 : decode cX0_repeatRank 14 = .ok (.if_icmp .ge 27, 3) := by decide +kernel
theorem dX0_repeatRank_17 : decode cX0_repeatRank 17 = .ok (.aload_n 0, 1) := by decide +kernel
theorem dX0_repeatRank_18 : decode cX0_repeatRank 18 = .ok (.iload_n 3, 1) := by decide +kernel
theorem dX0_repeatRank_19 : decode cX0_repeatRank 19 = .ok (.invokevirtual 54, 3) := by decide +kernel
theorem dX0_repeatRank_22 : decode cX0_repeatRank 22 = .ok (.istore 4, 2) := by decide +kernel
theorem dX0_repeatRank_24 : decode cX0_repeatRank 24 = .ok (.iload 4, 2) := by decide +kernel
theorem dX0_repeatRank_26 : decode cX0_repeatRank 26 = .ok (.iload_n 2, 1) := by decide +kernel
theorem dX0_repeatRank_27 : decode cX0_repeatRank 27 = .ok (.if_icmp .le 8, 3) := by decide +kernel
theorem dX0_repeatRank_30 : decode cX0_repeatRank 30 = .ok (.iload_n 3, 1) := by decide +kernel
theorem dX0_repeatRank_31 : decode cX0_repeatRank 31 = .ok (.istore_n 1, 1) := by decide +kernel
theorem dX0_repeatRank_32 : decode cX0_repeatRank 32 = .ok (.iload 4, 2) := by decide +kernel
theorem dX0_repeatRank_34 : decode cX0_repeatRank 34 = .ok (.istore_n 2, 1) := by decide +kernel
theorem dX0_repeatRank_35 : decode cX0_repeatRank 35 = .ok (.iinc 3 1, 3) := by decide +kernel
theorem dX0_repeatRank_38 : decode cX0_repeatRank 38 = .ok (.goto (-32), 3) := by decide +kernel
theorem dX0_repeatRank_41 : decode cX0_repeatRank 41 = .ok (.iload_n 1, 1) := by decide +kernel
theorem dX0_repeatRank_42 : decode cX0_repeatRank 42 = .ok (.ireturn, 1) := by decide +kernel
theorem dX1_init_0 : decode cX1_init 0 = .ok (.aload_n 0, 1) := by decide +kernel
theorem dX1_init_1 : decode cX1_init 1 = .ok (.invokespecial 3, 3) := by decide +kernel
theorem dX1_init_4 : decode cX1_init 4 = .ok (.aload_n 0, 1) := by decide +kernel
theorem dX1_init_5 : decode cX1_init 5 = .ok (.bipush 40, 2) := by decide +kernel
theorem dX1_init_7 : decode cX1_init 7 = .ok (.newarray .int, 2) := by decide +kernel
theorem dX1_init_9 : decode cX1_init 9 = .ok (.putfield 9, 3) := by decide +kernel
theorem dX1_init_12 : decode cX1_init 12 = .ok (.aload_n 0, 1) := by decide +kernel
theorem dX1_init_13 : decode cX1_init 13 = .ok (.iconst 0, 1) := by decide +kernel
theorem dX1_init_14 : decode cX1_init 14 = .ok (.putfield 15, 3) := by decide +kernel
theorem dX1_init_17 : decode cX1_init 17 = .ok (.return_, 1) := by decide +kernel
theorem dX1_at_0 : decode cX1_at 0 = .ok (.iload_n 1, 1) := by decide +kernel
theorem dX1_at_1 : decode cX1_at 1 = .ok (.ifCond .lt 20, 3) := by decide +kernel
theorem dX1_at_4 : decode cX1_at 4 = .ok (.iload_n 1, 1) := by decide +kernel
theorem dX1_at_5 : decode cX1_at 5 = .ok (.aload_n 0, 1) := by decide +kernel
theorem dX1_at_6 : decode cX1_at 6 = .ok (.getfield 15, 3) := by decide +kernel
theorem dX1_at_9 : decode cX1_at 9 = .ok (.if_icmp .ge 12, 3) := by decide +kernel
theorem dX1_at_12 : decode cX1_at 12 = .ok (.iload_n 1, 1) := by decide +kernel
theorem dX1_at_13 : decode cX1_at 13 = .ok (.aload_n 0, 1) := by decide +kernel
theorem dX1_at_14 : decode cX1_at 14 = .ok (.getfield 9, 3) := by decide +kernel
theorem dX1_at_17 : decode cX1_at 17 = .ok (.arraylength, 1) := by decide +kernel
theorem dX1_at_18 : decode cX1_at 18 = .ok (.if_icmp .lt 5, 3) := by decide +kernel
theorem dX1_at_21 : decode cX1_at 21 = .ok (.iconst (-1), 1) := by decide +kernel
theorem dX1_at_22 : decode cX1_at 22 = .ok (.ireturn, 1) := by decide +kernel
theorem dX1_at_23 : decode cX1_at 23 = .ok (.aload_n 0, 1) := by decide +kernel
theorem dX1_at_24 : decode cX1_at 24 = .ok (.getfield 9, 3) := by decide +kernel
theorem dX1_at_27 : decode cX1_at 27 = .ok (.iload_n 1, 1) := by decide +kernel
theorem dX1_at_28 : decode cX1_at 28 = .ok (.iaload, 1) := by decide +kernel
theorem dX1_at_29 : decode cX1_at 29 = .ok (.ireturn, 1) := by decide +kernel
theorem dX1_append_0 : decode cX1_append 0 = .ok (.aload_n 0, 1) := by decide +kernel
theorem dX1_append_1 : decode cX1_append 1 = .ok (.getfield 15, 3) := by decide +kernel
theorem dX1_append_4 : decode cX1_append 4 = .ok (.ifCond .lt 35, 3) := by decide +kernel
theorem dX1_append_7 : decode cX1_append 7 = .ok (.aload_n 0, 1) := by decide +kernel
theorem dX1_append_8 : decode cX1_append 8 = .ok (.getfield 15, 3) := by decide +kernel
theorem dX1_append_11 : decode cX1_append 11 = .ok (.aload_n 0, 1) := by decide +kernel
theorem dX1_append_12 : decode cX1_append 12 = .ok (.getfield 9, 3) := by decide +kernel
theorem dX1_append_15 : decode cX1_append 15 = .ok (.arraylength, 1) := by decide +kernel
theorem dX1_append_16 : decode cX1_append 16 = .ok (.if_icmp .ge 23, 3) := by decide +kernel
theorem dX1_append_19 : decode cX1_append 19 = .ok (.aload_n 0, 1) := by decide +kernel
theorem dX1_append_20 : decode cX1_append 20 = .ok (.getfield 9, 3) := by decide +kernel
theorem dX1_append_23 : decode cX1_append 23 = .ok (.aload_n 0, 1) := by decide +kernel
theorem dX1_append_24 : decode cX1_append 24 = .ok (.getfield 15, 3) := by decide +kernel
theorem dX1_append_27 : decode cX1_append 27 = .ok (.iload_n 1, 1) := by decide +kernel
theorem dX1_append_28 : decode cX1_append 28 = .ok (.iastore, 1) := by decide +kernel
theorem dX1_append_29 : decode cX1_append 29 = .ok (.aload_n 0, 1) := by decide +kernel
theorem dX1_append_30 : decode cX1_append 30 = .ok (.dup, 1) := by decide +kernel
theorem dX1_append_31 : decode cX1_append 31 = .ok (.getfield 15, 3) := by decide +kernel
theorem dX1_append_34 : decode cX1_append 34 = .ok (.iconst 1, 1) := by decide +kernel
theorem dX1_append_35 : decode cX1_append 35 = .ok (.iadd, 1) := by decide +kernel
theorem dX1_append_36 : decode cX1_append 36 = .ok (.putfield 15, 3) := by decide +kernel
theorem dX1_append_39 : decode cX1_append 39 = .ok (.return_, 1) := by decide +kernel
theorem dX1_drop_0 : decode cX1_drop 0 = .ok (.aload_n 0, 1) := by decide +kernel
theorem dX1_drop_1 : decode cX1_drop 1 = .ok (.iload_n 1, 1) := by decide +kernel
theorem dX1_drop_2 : decode cX1_drop 2 = .ok (.aload_n 0, 1) := by decide +kernel
theorem dX1_drop_3 : decode cX1_drop 3 = .ok (.getfield 15, 3) := by decide +kernel
theorem dX1_drop_6 : decode cX1_drop 6 = .ok (.if_icmp .ge 12, 3) := by decide +kernel
theorem dX1_drop_9 : decode cX1_drop 9 = .ok (.aload_n 0, 1) := by decide +kernel
theorem dX1_drop_10 : decode cX1_drop 10 = .ok (.getfield 15, 3) := by decide +kernel
theorem dX1_drop_13 : decode cX1_drop 13 = .ok (.iload_n 1, 1) := by decide +kernel
theorem dX1_drop_14 : decode cX1_drop 14 = .ok (.isub, 1) := by decide +kernel
theorem dX1_drop_15 : decode cX1_drop 15 = .ok (.goto 4, 3) := by decide +kernel
theorem dX1_drop_18 : decode cX1_drop 18 = .ok (.iconst 0, 1) := by decide +kernel
theorem dX1_drop_19 : decode cX1_drop 19 = .ok (.putfield 15, 3) := by decide +kernel
theorem dX1_drop_22 : decode cX1_drop 22 = .ok (.return_, 1) := by decide +kernel
set_option maxRecDepth 20000 in
theorem ggX1_sharedWith_X1_at : GoodIn wsX1_sharedWith wsX1_at := goodIn_r _ [10, 1, 11, 12, 13] (by decide +kernel) (by decide +kernel)
set_option maxRecDepth 20000 in
theorem gX1_sharedWith_X1_at : GoodIn wsX1_sharedWith (wsV RX1 25 RX1 yX1_at wsX1_at) := goodIn_app (goodIn_of _ (by decide +kernel)) ggX1_sharedWith_X1_at
theorem dX1_sharedWith_0 : decode cX1_sharedWith 0 = .ok (.aload_n 0, 1) := by decide +kernel
theorem dX1_sharedWith_1 : decode cX1_sharedWith 1 = .ok (.getfield 15, 3) := by decide +kernel
theorem dX1_sharedWith_4 : decode cX1_sharedWith 4 = .ok (.iload_n 1, 1) := by decide +kernel
theorem dX1_sharedWith_5 : decode cX1_sharedWith 5 = .ok (.isub, 1) := by decide +kernel
theorem dX1_sharedWith_6 : decode cX1_sharedWith 6 = .ok (.aload_n 2, 1) := by decide +kernel
theorem dX1_sharedWith_7 : decode cX1_sharedWith 7 = .ok (.getfield 15, 3) := by decide +kernel
theorem dX1_sharedWith_10 : decode cX1_sharedWith 10 = .ok (.iload_n 3, 1) := by decide +kernel
theorem dX1_sharedWith_11 : decode cX1_sharedWith 11 = .ok (.isub, 1) := by decide +kernel
theorem dX1_sharedWith_12 : decode cX1_sharedWith 12 = .ok (.invokestatic 19, 3) := by decide +kernel
theorem dX1_sharedWith_15 : decode cX1_sharedWith 15 = .ok (.istore 4, 2) := by decide +kernel
theorem dX1_sharedWith_17 : decode cX1_sharedWith 17 = .ok (.iconst 0, 1) := by decide +kernel
theorem dX1_sharedWith_18 : decode cX1_sharedWith 18 = .ok (.istore 5, 2) := by decide +kernel
theorem dX1_sharedWith_20 : decode cX1_sharedWith 20 = .ok (.iload 5, 2) := by decide +kernel
theorem dX1_sharedWith_22 : decode cX1_sharedWith 22 = .ok (.iload 4, 2) := by decide +kernel
theorem dX1_sharedWith_24 : decode cX1_sharedWith 24 = .ok (.if_icmp .ge 28, 3) := by decide +kernel
theorem dX1_sharedWith_27 : decode cX1_sharedWith 27 = .ok (.aload_n 0, 1) := by decide +kernel
theorem dX1_sharedWith_28 : decode cX1_sharedWith 28 = .ok (.iload_n 1, 1) := by decide +kernel
theorem dX1_sharedWith_29 : decode cX1_sharedWith 29 = .ok (.iload 5, 2) := by decide +kernel
theorem dX1_sharedWith_31 : decode cX1_sharedWith 31 = .ok (.iadd, 1) := by decide +kernel
theorem dX1_sharedWith_32 : decode cX1_sharedWith 32 = .ok (.invokevirtual 25, 3) := by decide +kernel
theorem dX1_sharedWith_35 : decode cX1_sharedWith 35 = .ok (.aload_n 2, 1) := by decide +kernel
theorem dX1_sharedWith_36 : decode cX1_sharedWith 36 = .ok (.iload_n 3, 1) := by decide +kernel
theorem dX1_sharedWith_37 : decode cX1_sharedWith 37 = .ok (.iload 5, 2) := by decide +kernel
theorem dX1_sharedWith_39 : decode cX1_sharedWith 39 = .ok (.iadd, 1) := by decide +kernel
theorem dX1_sharedWith_40 : decode cX1_sharedWith 40 = .ok (.invokevirtual 25, 3) := by decide +kernel
theorem dX1_sharedWith_43 : decode cX1_sharedWith 43 = .ok (.if_icmp .ne 9, 3) := by decide +kernel
theorem dX1_sharedWith_46 : decode cX1_sharedWith 46 = .ok (.iinc 5 1, 3) := by decide +kernel
theorem dX1_sharedWith_49 : decode cX1_sharedWith 49 = .ok (.goto (-29), 3) := by decide +kernel
theorem dX1_sharedWith_52 : decode cX1_sharedWith 52 = .ok (.iload 5, 2) := by decide +kernel
theorem dX1_sharedWith_54 : decode cX1_sharedWith 54 = .ok (.ireturn, 1) := by decide +kernel
set_option maxRecDepth 20000 in
theorem ggX1_difference_X1_sharedWith : GoodIn wsX1_difference wsX1_sharedWith := goodIn_r _ [5, 6, 7, 8, 9, 10, 11, 12, 13, 4, 14, 15, 16, 17] (by decide +kernel) (by decide +kernel)
set_option maxRecDepth 20000 in
theorem gX1_difference_X1_sharedWith : GoodIn wsX1_difference (wsV RX1 29 RX1 yX1_sharedWith wsX1_sharedWith) := goodIn_app (goodIn_of _ (by decide +kernel)) ggX1_difference_X1_sharedWith
set_option maxRecDepth 20000 in
theorem ggX1_difference_X1_at : GoodIn wsX1_difference wsX1_at := goodIn_r _ [14, 6, 15, 16, 17] (by decide +kernel) (by decide +kernel)
set_option maxRecDepth 20000 in
theorem gX1_difference_X1_at : GoodIn wsX1_difference (wsV RX1 25 RX1 yX1_at wsX1_at) := goodIn_app (goodIn_of _ (by decide +kernel)) ggX1_difference_X1_at
theorem dX1_difference_0 : decode cX1_difference 0 = .ok (.aload_n 0, 1) := by decide +kernel
theorem dX1_difference_1 : decode cX1_difference 1 = .ok (.iload_n 1, 1) := by decide +kernel
theorem dX1_difference_2 : decode cX1_difference 2 = .ok (.aload_n 2, 1) := by decide +kernel
theorem dX1_difference_3 : decode cX1_difference 3 = .ok (.iload_n 3, 1) := by decide +kernel
theorem dX1_difference_4 : decode cX1_difference 4 = .ok (.invokevirtual 29, 3) := by decide +kernel
theorem dX1_difference_7 : decode cX1_difference 7 = .ok (.istore 4, 2) := by decide +kernel
theorem dX1_difference_9 : decode cX1_difference 9 = .ok (.aload_n 0, 1) := by decide +kernel
theorem dX1_difference_10 : decode cX1_difference 10 = .ok (.iload_n 1, 1) := by decide +kernel
theorem dX1_difference_11 : decode cX1_difference 11 = .ok (.iload 4, 2) := by decide +kernel
theorem dX1_difference_13 : decode cX1_difference 13 = .ok (.iadd, 1) := by decide +kernel
theorem dX1_difference_14 : decode cX1_difference 14 = .ok (.invokevirtual 25, 3) := by decide +kernel
theorem dX1_difference_17 : decode cX1_difference 17 = .ok (.istore 5, 2) := by decide +kernel
theorem dX1_difference_19 : decode cX1_difference 19 = .ok (.aload_n 2, 1) := by decide +kernel
theorem dX1_difference_20 : decode cX1_difference 20 = .ok (.iload_n 3, 1) := by decide +kernel
theorem dX1_difference_21 : decode cX1_difference 21 = .ok (.iload 4, 2) := by decide +kernel
theorem dX1_difference_23 : decode cX1_difference 23 = .ok (.iadd, 1) := by decide +kernel
theorem dX1_difference_24 : decode cX1_difference 24 = .ok (.invokevirtual 25, 3) := by decide +kernel
theorem dX1_difference_27 : decode cX1_difference 27 = .ok (.istore 6, 2) := by decide +kernel
theorem dX1_difference_29 : decode cX1_difference 29 = .ok (.iload 5, 2) := by decide +kernel
theorem dX1_difference_31 : decode cX1_difference 31 = .ok (.iload 6, 2) := by decide +kernel
theorem dX1_difference_33 : decode cX1_difference 33 = .ok (.if_icmp .ne 5, 3) := by decide +kernel
theorem dX1_difference_36 : decode cX1_difference 36 = .ok (.iconst 0, 1) := by decide +kernel
theorem dX1_difference_37 : decode cX1_difference 37 = .ok (.ireturn, 1) := by decide +kernel
theorem dX1_difference_38 : decode cX1_difference 38 = .ok (.iload 5, 2) := by decide +kernel
theorem dX1_difference_40 : decode cX1_difference 40 = .ok (.iload 6, 2) := by decide +kernel
theorem dX1_difference_42 : decode cX1_difference 42 = .ok (.if_icmp .ge 11, 3) := by decide +kernel
theorem dX1_difference_45 : decode cX1_difference 45 = .ok (.iload 4, 2) := by decide +kernel
theorem dX1_difference_47 : decode cX1_difference 47 = .ok (.iconst 1, 1) := by decide +kernel
theorem dX1_difference_48 : decode cX1_difference 48 = .ok (.iadd, 1) := by decide +kernel
theorem dX1_difference_49 : decode cX1_difference 49 = .ok (.ineg, 1) := by decide +kernel
theorem dX1_difference_50 : decode cX1_difference 50 = .ok (.goto 7, 3) := by decide +kernel
theorem dX1_difference_53 : decode cX1_difference 53 = .ok (.iload 4, 2) := by decide +kernel
theorem dX1_difference_55 : decode cX1_difference 55 = .ok (.iconst 1, 1) := by decide +kernel
theorem dX1_difference_56 : decode cX1_difference 56 = .ok (.iadd, 1) := by decide +kernel
theorem dX1_difference_57 : decode cX1_difference 57 = .ok (.ireturn, 1) := by decide +kernel
set_option maxRecDepth 20000 in
theorem ggX1_mostSharedWith_X1_sharedWith : GoodIn wsX1_mostSharedWith wsX1_sharedWith := goodIn_r _ [10, 1, 11, 12, 4, 13, 14, 15, 16, 9, 17, 18, 19, 20] (by decide +kernel) (by decide +kernel)
set_option maxRecDepth 20000 in
theorem gX1_mostSharedWith_X1_sharedWith : GoodIn wsX1_mostSharedWith (wsV RX1 29 RX1 yX1_sharedWith wsX1_sharedWith) := goodIn_app (goodIn_of _ (by decide +kernel)) ggX1_mostSharedWith_X1_sharedWith
theorem dX1_mostSharedWith_0 : decode cX1_mostSharedWith 0 = .ok (.iload_n 1, 1) := by decide +kernel
theorem dX1_mostSharedWith_1 : decode cX1_mostSharedWith 1 = .ok (.ifCond .ge 5, 3) := by decide +kernel
theorem dX1_mostSharedWith_4 : decode cX1_mostSharedWith 4 = .ok (.iconst 0, 1) := by decide +kernel
theorem dX1_mostSharedWith_5 : decode cX1_mostSharedWith 5 = .ok (.ireturn, 1) := by decide +kernel
theorem dX1_mostSharedWith_6 : decode cX1_mostSharedWith 6 = .ok (.iconst 0, 1) := by decide +kernel
theorem dX1_mostSharedWith_7 : decode cX1_mostSharedWith 7 = .ok (.istore_n 3, 1) := by decide +kernel
theorem dX1_mostSharedWith_8 : decode cX1_mostSharedWith 8 = .ok (.iconst 0, 1) := by decide +kernel
theorem dX1_mostSharedWith_9 : decode cX1_mostSharedWith 9 = .ok (.istore 4, 2) := by decide +kernel
theorem dX1_mostSharedWith_11 : decode cX1_mostSharedWith 11 = .ok (.iload 4, 2) := by decide +kernel
theorem dX1_mostSharedWith_13 : decode cX1_mostSharedWith 13 = .ok (.iload_n 3, 1) := by decide +kernel
theorem dX1_mostSharedWith_14 : decode cX1_mostSharedWith 14 = .ok (.iadd, 1) := by decide +kernel
theorem dX1_mostSharedWith_15 : decode cX1_mostSharedWith 15 = .ok (.aload_n 2, 1) := by decide +kernel
theorem dX1_mostSharedWith_16 : decode cX1_mostSharedWith 16 = .ok (.getfield 15, 3) := by decide +kernel
theorem dX1_mostSharedWith_19 : decode cX1_mostSharedWith 19 = .ok (.if_icmp .ge 22, 3) := by decide +kernel
theorem dX1_mostSharedWith_22 : decode cX1_mostSharedWith 22 = .ok (.iload_n 3, 1) := by decide +kernel
theorem dX1_mostSharedWith_23 : decode cX1_mostSharedWith 23 = .ok (.aload_n 0, 1) := by decide +kernel
theorem dX1_mostSharedWith_24 : decode cX1_mostSharedWith 24 = .ok (.iload_n 1, 1) := by decide +kernel
theorem dX1_mostSharedWith_25 : decode cX1_mostSharedWith 25 = .ok (.aload_n 2, 1) := by decide +kernel
theorem dX1_mostSharedWith_26 : decode cX1_mostSharedWith 26 = .ok (.iload 4, 2) := by decide +kernel
theorem dX1_mostSharedWith_28 : decode cX1_mostSharedWith 28 = .ok (.invokevirtual 29, 3) := by decide +kernel
theorem dX1_mostSharedWith_31 : decode cX1_mostSharedWith 31 = .ok (.invokestatic 33, 3) := by decide +kernel
theorem dX1_mostSharedWith_34 : decode cX1_mostSharedWith 34 = .ok (.istore_n 3, 1) := by decide +kernel
theorem dX1_mostSharedWith_35 : decode cX1_mostSharedWith 35 = .ok (.iinc 4 1, 3) := by decide +kernel
theorem dX1_mostSharedWith_38 : decode cX1_mostSharedWith 38 = .ok (.goto (-27), 3) := by decide +kernel
theorem dX1_mostSharedWith_41 : decode cX1_mostSharedWith 41 = .ok (.iload_n 3, 1) := by decide +kernel
theorem dX1_mostSharedWith_42 : decode cX1_mostSharedWith 42 = .ok (.ireturn, 1) := by decide +kernel
set_option maxRecDepth 20000 in
theorem ggX1_standsAt_X1_sharedWith : GoodIn wsX1_standsAt wsX1_sharedWith := goodIn_r _ [5, 6, 7, 8, 9, 10, 11, 12, 13, 4, 14, 15, 16, 17] (by decide +kernel) (by decide +kernel)
set_option maxRecDepth 20000 in
theorem gX1_standsAt_X1_sharedWith : GoodIn wsX1_standsAt (wsV RX1 29 RX1 yX1_sharedWith wsX1_sharedWith) := goodIn_app (goodIn_of _ (by decide +kernel)) ggX1_standsAt_X1_sharedWith
theorem dX1_standsAt_0 : decode cX1_standsAt 0 = .ok (.aload_n 0, 1) := by decide +kernel
theorem dX1_standsAt_1 : decode cX1_standsAt 1 = .ok (.iload_n 1, 1) := by decide +kernel
theorem dX1_standsAt_2 : decode cX1_standsAt 2 = .ok (.aload_n 2, 1) := by decide +kernel
theorem dX1_standsAt_3 : decode cX1_standsAt 3 = .ok (.iload_n 3, 1) := by decide +kernel
theorem dX1_standsAt_4 : decode cX1_standsAt 4 = .ok (.invokevirtual 29, 3) := by decide +kernel
theorem dX1_standsAt_7 : decode cX1_standsAt 7 = .ok (.iload 4, 2) := by decide +kernel
theorem dX1_standsAt_9 : decode cX1_standsAt 9 = .ok (.if_icmp .lt 7, 3) := by decide +kernel
theorem dX1_standsAt_12 : decode cX1_standsAt 12 = .ok (.iconst 1, 1) := by decide +kernel
theorem dX1_standsAt_13 : decode cX1_standsAt 13 = .ok (.goto 4, 3) := by decide +kernel
theorem dX1_standsAt_16 : decode cX1_standsAt 16 = .ok (.iconst 0, 1) := by decide +kernel
theorem dX1_standsAt_17 : decode cX1_standsAt 17 = .ok (.ireturn, 1) := by decide +kernel
set_option maxRecDepth 20000 in
theorem ggX1_firstPlaceOf_X1_standsAt : GoodIn wsX1_firstPlaceOf wsX1_standsAt := goodIn_r _ [6, 7, 8, 9, 5, 10, 1, 11, 12, 13, 14, 15, 16, 17, 18, 19, 20, 21] (by decide +kernel) (by decide +kernel)
set_option maxRecDepth 20000 in
theorem gX1_firstPlaceOf_X1_standsAt : GoodIn wsX1_firstPlaceOf (wsV RX1 36 RX1 yX1_standsAt wsX1_standsAt) := goodIn_app (goodIn_of _ (by decide +kernel)) ggX1_firstPlaceOf_X1_standsAt
theorem dX1_firstPlaceOf_0 : decode cX1_firstPlaceOf 0 = .ok (.iload_n 3, 1) := by decide +kernel
theorem dX1_firstPlaceOf_1 : decode cX1_firstPlaceOf 1 = .ok (.iconst 1, 1) := by decide +kernel
theorem dX1_firstPlaceOf_2 : decode cX1_firstPlaceOf 2 = .ok (.if_icmp .ge 5, 3) := by decide +kernel
theorem dX1_firstPlaceOf_5 : decode cX1_firstPlaceOf 5 = .ok (.iconst (-1), 1) := by decide +kernel
theorem dX1_firstPlaceOf_6 : decode cX1_firstPlaceOf 6 = .ok (.ireturn, 1) := by decide +kernel
theorem dX1_firstPlaceOf_7 : decode cX1_firstPlaceOf 7 = .ok (.iconst 0, 1) := by decide +kernel
theorem dX1_firstPlaceOf_8 : decode cX1_firstPlaceOf 8 = .ok (.istore 4, 2) := by decide +kernel
theorem dX1_firstPlaceOf_10 : decode cX1_firstPlaceOf 10 = .ok (.iload 4, 2) := by decide +kernel
theorem dX1_firstPlaceOf_12 : decode cX1_firstPlaceOf 12 = .ok (.iload_n 3, 1) := by decide +kernel
theorem dX1_firstPlaceOf_13 : decode cX1_firstPlaceOf 13 = .ok (.iadd, 1) := by decide +kernel
theorem dX1_firstPlaceOf_14 : decode cX1_firstPlaceOf 14 = .ok (.aload_n 0, 1) := by decide +kernel
theorem dX1_firstPlaceOf_15 : decode cX1_firstPlaceOf 15 = .ok (.getfield 15, 3) := by decide +kernel
theorem dX1_firstPlaceOf_18 : decode cX1_firstPlaceOf 18 = .ok (.if_icmp .gt 24, 3) := by decide +kernel
theorem dX1_firstPlaceOf_21 : decode cX1_firstPlaceOf 21 = .ok (.aload_n 0, 1) := by decide +kernel
theorem dX1_firstPlaceOf_22 : decode cX1_firstPlaceOf 22 = .ok (.iload 4, 2) := by decide +kernel
theorem dX1_firstPlaceOf_24 : decode cX1_firstPlaceOf 24 = .ok (.aload_n 1, 1) := by decide +kernel
theorem dX1_firstPlaceOf_25 : decode cX1_firstPlaceOf 25 = .ok (.iload_n 2, 1) := by decide +kernel
theorem dX1_firstPlaceOf_26 : decode cX1_firstPlaceOf 26 = .ok (.iload_n 3, 1) := by decide +kernel
theorem dX1_firstPlaceOf_27 : decode cX1_firstPlaceOf 27 = .ok (.invokevirtual 36, 3) := by decide +kernel
theorem dX1_firstPlaceOf_30 : decode cX1_firstPlaceOf 30 = .ok (.ifCond .eq 6, 3) := by decide +kernel
theorem dX1_firstPlaceOf_33 : decode cX1_firstPlaceOf 33 = .ok (.iload 4, 2) := by decide +kernel
theorem dX1_firstPlaceOf_35 : decode cX1_firstPlaceOf 35 = .ok (.ireturn, 1) := by decide +kernel
theorem dX1_firstPlaceOf_36 : decode cX1_firstPlaceOf 36 = .ok (.iinc 4 1, 3) := by decide +kernel
theorem dX1_firstPlaceOf_39 : decode cX1_firstPlaceOf 39 = .ok (.goto (-29), 3) := by decide +kernel
theorem dX1_firstPlaceOf_42 : decode cX1_firstPlaceOf 42 = .ok (.iconst (-1), 1) := by decide +kernel
theorem dX1_firstPlaceOf_43 : decode cX1_firstPlaceOf 43 = .ok (.ireturn, 1) := by decide +kernel
set_option maxRecDepth 20000 in
theorem ggX1_placesOf_X1_standsAt : GoodIn wsX1_placesOf wsX1_standsAt := goodIn_r _ [6, 7, 8, 9, 5, 10, 1, 11, 12, 13, 14, 15, 16, 17, 18, 19, 20, 21] (by decide +kernel) (by decide +kernel)
set_option maxRecDepth 20000 in
theorem gX1_placesOf_X1_standsAt : GoodIn wsX1_placesOf (wsV RX1 36 RX1 yX1_standsAt wsX1_standsAt) := goodIn_app (goodIn_of _ (by decide +kernel)) ggX1_placesOf_X1_standsAt
theorem dX1_placesOf_0 : decode cX1_placesOf 0 = .ok (.iload_n 3, 1) := by decide +kernel
theorem dX1_placesOf_1 : decode cX1_placesOf 1 = .ok (.iconst 1, 1) := by decide +kernel
theorem dX1_placesOf_2 : decode cX1_placesOf 2 = .ok (.if_icmp .ge 5, 3) := by decide +kernel
theorem dX1_placesOf_5 : decode cX1_placesOf 5 = .ok (.iconst 0, 1) := by decide +kernel
theorem dX1_placesOf_6 : decode cX1_placesOf 6 = .ok (.ireturn, 1) := by decide +kernel
theorem dX1_placesOf_7 : decode cX1_placesOf 7 = .ok (.iconst 0, 1) := by decide +kernel
theorem dX1_placesOf_8 : decode cX1_placesOf 8 = .ok (.istore 4, 2) := by decide +kernel
theorem dX1_placesOf_10 : decode cX1_placesOf 10 = .ok (.iconst 0, 1) := by decide +kernel
theorem dX1_placesOf_11 : decode cX1_placesOf 11 = .ok (.istore 5, 2) := by decide +kernel
theorem dX1_placesOf_13 : decode cX1_placesOf 13 = .ok (.iload 5, 2) := by decide +kernel
theorem dX1_placesOf_15 : decode cX1_placesOf 15 = .ok (.iload_n 3, 1) := by decide +kernel
theorem dX1_placesOf_16 : decode cX1_placesOf 16 = .ok (.iadd, 1) := by decide +kernel
theorem dX1_placesOf_17 : decode cX1_placesOf 17 = .ok (.aload_n 0, 1) := by decide +kernel
theorem dX1_placesOf_18 : decode cX1_placesOf 18 = .ok (.getfield 15, 3) := by decide +kernel
theorem dX1_placesOf_21 : decode cX1_placesOf 21 = .ok (.if_icmp .gt 24, 3) := by decide +kernel
theorem dX1_placesOf_24 : decode cX1_placesOf 24 = .ok (.aload_n 0, 1) := by decide +kernel
theorem dX1_placesOf_25 : decode cX1_placesOf 25 = .ok (.iload 5, 2) := by decide +kernel
theorem dX1_placesOf_27 : decode cX1_placesOf 27 = .ok (.aload_n 1, 1) := by decide +kernel
theorem dX1_placesOf_28 : decode cX1_placesOf 28 = .ok (.iload_n 2, 1) := by decide +kernel
theorem dX1_placesOf_29 : decode cX1_placesOf 29 = .ok (.iload_n 3, 1) := by decide +kernel
theorem dX1_placesOf_30 : decode cX1_placesOf 30 = .ok (.invokevirtual 36, 3) := by decide +kernel
theorem dX1_placesOf_33 : decode cX1_placesOf 33 = .ok (.ifCond .eq 6, 3) := by decide +kernel
theorem dX1_placesOf_36 : decode cX1_placesOf 36 = .ok (.iinc 4 1, 3) := by decide +kernel
theorem dX1_placesOf_39 : decode cX1_placesOf 39 = .ok (.iinc 5 1, 3) := by decide +kernel
theorem dX1_placesOf_42 : decode cX1_placesOf 42 = .ok (.goto (-29), 3) := by decide +kernel
theorem dX1_placesOf_45 : decode cX1_placesOf 45 = .ok (.iload 4, 2) := by decide +kernel
theorem dX1_placesOf_47 : decode cX1_placesOf 47 = .ok (.ireturn, 1) := by decide +kernel
set_option maxRecDepth 20000 in
theorem ggX1_leastPeriod_X1_sharedWith : GoodIn wsX1_leastPeriod wsX1_sharedWith := goodIn_r _ [6, 1, 7, 8, 9, 10, 11, 12, 13, 5, 14, 15, 16, 17] (by decide +kernel) (by decide +kernel)
set_option maxRecDepth 20000 in
theorem gX1_leastPeriod_X1_sharedWith : GoodIn wsX1_leastPeriod (wsV RX1 29 RX1 yX1_sharedWith wsX1_sharedWith) := goodIn_app (goodIn_of _ (by decide +kernel)) ggX1_leastPeriod_X1_sharedWith
theorem dX1_leastPeriod_0 : decode cX1_leastPeriod 0 = .ok (.iconst 1, 1) := by decide +kernel
theorem dX1_leastPeriod_1 : decode cX1_leastPeriod 1 = .ok (.istore_n 1, 1) := by decide +kernel
theorem dX1_leastPeriod_2 : decode cX1_leastPeriod 2 = .ok (.iload_n 1, 1) := by decide +kernel
theorem dX1_leastPeriod_3 : decode cX1_leastPeriod 3 = .ok (.aload_n 0, 1) := by decide +kernel
theorem dX1_leastPeriod_4 : decode cX1_leastPeriod 4 = .ok (.getfield 15, 3) := by decide +kernel
theorem dX1_leastPeriod_7 : decode cX1_leastPeriod 7 = .ok (.if_icmp .ge 27, 3) := by decide +kernel
theorem dX1_leastPeriod_10 : decode cX1_leastPeriod 10 = .ok (.aload_n 0, 1) := by decide +kernel
theorem dX1_leastPeriod_11 : decode cX1_leastPeriod 11 = .ok (.iconst 0, 1) := by decide +kernel
theorem dX1_leastPeriod_12 : decode cX1_leastPeriod 12 = .ok (.aload_n 0, 1) := by decide +kernel
theorem dX1_leastPeriod_13 : decode cX1_leastPeriod 13 = .ok (.iload_n 1, 1) := by decide +kernel
theorem dX1_leastPeriod_14 : decode cX1_leastPeriod 14 = .ok (.invokevirtual 29, 3) := by decide +kernel
theorem dX1_leastPeriod_17 : decode cX1_leastPeriod 17 = .ok (.aload_n 0, 1) := by decide +kernel
theorem dX1_leastPeriod_18 : decode cX1_leastPeriod 18 = .ok (.getfield 15, 3) := by decide +kernel
theorem dX1_leastPeriod_21 : decode cX1_leastPeriod 21 = .ok (.iload_n 1, 1) := by decide +kernel
theorem dX1_leastPeriod_22 : decode cX1_leastPeriod 22 = .ok (.isub, 1) := by decide +kernel
theorem dX1_leastPeriod_23 : decode cX1_leastPeriod 23 = .ok (.if_icmp .ne 5, 3) := by decide +kernel
theorem dX1_leastPeriod_26 : decode cX1_leastPeriod 26 = .ok (.iload_n 1, 1) := by decide +kernel
theorem dX1_leastPeriod_27 : decode cX1_leastPeriod 27 = .ok (.ireturn, 1) := by decide +kernel
theorem dX1_leastPeriod_28 : decode cX1_leastPeriod 28 = .ok (.iinc 1 1, 3) := by decide +kernel
theorem dX1_leastPeriod_31 : decode cX1_leastPeriod 31 = .ok (.goto (-29), 3) := by decide +kernel
theorem dX1_leastPeriod_34 : decode cX1_leastPeriod 34 = .ok (.aload_n 0, 1) := by decide +kernel
theorem dX1_leastPeriod_35 : decode cX1_leastPeriod 35 = .ok (.getfield 15, 3) := by decide +kernel
theorem dX1_leastPeriod_38 : decode cX1_leastPeriod 38 = .ok (.ireturn, 1) := by decide +kernel
set_option maxRecDepth 20000 in
theorem ggX1_bestBeginning_X1_turnsToLess : GoodIn wsX1_bestBeginning wsX1_turnsToLess := goodIn_r _ [6, 1, 7, 8, 9, 5, 10, 11, 12, 13, 14, 15, 16, 17] (by decide +kernel) (by decide +kernel)
set_option maxRecDepth 20000 in
theorem gX1_bestBeginning_X1_turnsToLess : GoodIn wsX1_bestBeginning (wsV RX1 40 RX1 yX1_turnsToLess wsX1_turnsToLess) := goodIn_app (goodIn_of _ (by decide +kernel)) ggX1_bestBeginning_X1_turnsToLess
theorem dX1_bestBeginning_0 : decode cX1_bestBeginning 0 = .ok (.aload_n 0, 1) := by decide +kernel
theorem dX1_bestBeginning_1 : decode cX1_bestBeginning 1 = .ok (.getfield 15, 3) := by decide +kernel
theorem dX1_bestBeginning_4 : decode cX1_bestBeginning 4 = .ok (.ifCond .ne 5, 3) := by decide +kernel
theorem dX1_bestBeginning_7 : decode cX1_bestBeginning 7 = .ok (.iconst (-1), 1) := by decide +kernel
theorem dX1_bestBeginning_8 : decode cX1_bestBeginning 8 = .ok (.ireturn, 1) := by decide +kernel
theorem dX1_bestBeginning_9 : decode cX1_bestBeginning 9 = .ok (.iconst 0, 1) := by decide +kernel
theorem dX1_bestBeginning_10 : decode cX1_bestBeginning 10 = .ok (.istore_n 1, 1) := by decide +kernel
theorem dX1_bestBeginning_11 : decode cX1_bestBeginning 11 = .ok (.iconst 1, 1) := by decide +kernel
theorem dX1_bestBeginning_12 : decode cX1_bestBeginning 12 = .ok (.istore_n 2, 1) := by decide +kernel
theorem dX1_bestBeginning_13 : decode cX1_bestBeginning 13 = .ok (.iload_n 2, 1) := by decide +kernel
theorem dX1_bestBeginning_14 : decode cX1_bestBeginning 14 = .ok (.aload_n 0, 1) := by decide +kernel
theorem dX1_bestBeginning_15 : decode cX1_bestBeginning 15 = .ok (.getfield 15, 3) := by decide +kernel
theorem dX1_bestBeginning_18 : decode cX1_bestBeginning 18 = .ok (.if_icmp .ge 20, 3) := by decide +kernel
theorem dX1_bestBeginning_21 : decode cX1_bestBeginning 21 = .ok (.aload_n 0, 1) := by decide +kernel
theorem dX1_bestBeginning_22 : decode cX1_bestBeginning 22 = .ok (.iload_n 2, 1) := by decide +kernel
theorem dX1_bestBeginning_23 : decode cX1_bestBeginning 23 = .ok (.iload_n 1, 1) := by decide +kernel
theorem dX1_bestBeginning_24 : decode cX1_bestBeginning 24 = .ok (.invokevirtual 40, 3) := by decide +kernel
theorem dX1_bestBeginning_27 : decode cX1_bestBeginning 27 = .ok (.ifCond .eq 5, 3) := by decide +kernel
theorem dX1_bestBeginning_30 : decode cX1_bestBeginning 30 = .ok (.iload_n 2, 1) := by decide +kernel
theorem dX1_bestBeginning_31 : decode cX1_bestBeginning 31 = .ok (.istore_n 1, 1) := by decide +kernel
theorem dX1_bestBeginning_32 : decode cX1_bestBeginning 32 = .ok (.iinc 2 1, 3) := by decide +kernel
theorem dX1_bestBeginning_35 : decode cX1_bestBeginning 35 = .ok (.goto (-22), 3) := by decide +kernel
theorem dX1_bestBeginning_38 : decode cX1_bestBeginning 38 = .ok (.iload_n 1, 1) := by decide +kernel
theorem dX1_bestBeginning_39 : decode cX1_bestBeginning 39 = .ok (.ireturn, 1) := by decide +kernel
set_option maxRecDepth 20000 in
theorem ggX1_turnsToLess_X1_allAround : GoodIn wsX1_turnsToLess wsX1_allAround := goodIn_r _ [6, 1, 7, 8, 9, 5, 10, 11, 12, 13] (by decide +kernel) (by decide +kernel)
set_option maxRecDepth 20000 in
theorem gX1_turnsToLess_X1_allAround : GoodIn wsX1_turnsToLess (wsV RX1 44 RX1 yX1_allAround wsX1_allAround) := goodIn_app (goodIn_of _ (by decide +kernel)) ggX1_turnsToLess_X1_allAround
theorem dX1_turnsToLess_0 : decode cX1_turnsToLess 0 = .ok (.iconst 0, 1) := by decide +kernel
theorem dX1_turnsToLess_1 : decode cX1_turnsToLess 1 = .ok (.istore_n 3, 1) := by decide +kernel
theorem dX1_turnsToLess_2 : decode cX1_turnsToLess 2 = .ok (.iload_n 3, 1) := by decide +kernel
theorem dX1_turnsToLess_3 : decode cX1_turnsToLess 3 = .ok (.aload_n 0, 1) := by decide +kernel
theorem dX1_turnsToLess_4 : decode cX1_turnsToLess 4 = .ok (.getfield 15, 3) := by decide +kernel
theorem dX1_turnsToLess_7 : decode cX1_turnsToLess 7 = .ok (.if_icmp .ge 47, 3) := by decide +kernel
theorem dX1_turnsToLess_10 : decode cX1_turnsToLess 10 = .ok (.aload_n 0, 1) := by decide +kernel
theorem dX1_turnsToLess_11 : decode cX1_turnsToLess 11 = .ok (.iload_n 1, 1) := by decide +kernel
theorem dX1_turnsToLess_12 : decode cX1_turnsToLess 12 = .ok (.iload_n 3, 1) := by decide +kernel
theorem dX1_turnsToLess_13 : decode cX1_turnsToLess 13 = .ok (.iadd, 1) := by decide +kernel
theorem dX1_turnsToLess_14 : decode cX1_turnsToLess 14 = .ok (.invokevirtual 44, 3) := by decide +kernel
theorem dX1_turnsToLess_17 : decode cX1_turnsToLess 17 = .ok (.istore 4, 2) := by decide +kernel
theorem dX1_turnsToLess_19 : decode cX1_turnsToLess 19 = .ok (.aload_n 0, 1) := by decide +kernel
theorem dX1_turnsToLess_20 : decode cX1_turnsToLess 20 = .ok (.iload_n 2, 1) := by decide +kernel
theorem dX1_turnsToLess_21 : decode cX1_turnsToLess 21 = .ok (.iload_n 3, 1) := by decide +kernel
theorem dX1_turnsToLess_22 : decode cX1_turnsToLess 22 = .ok (.iadd, 1) := by decide +kernel
theorem dX1_turnsToLess_23 : decode cX1_turnsToLess 23 = .ok (.invokevirtual 44, 3) := by decide +kernel
theorem dX1_turnsToLess_26 : decode cX1_turnsToLess 26 = .ok (.istore 5, 2) := by decide +kernel
theorem dX1_turnsToLess_28 : decode cX1_turnsToLess 28 = .ok (.iload 4, 2) := by decide +kernel
theorem dX1_turnsToLess_30 : decode cX1_turnsToLess 30 = .ok (.iload 5, 2) := by decide +kernel
theorem dX1_turnsToLess_32 : decode cX1_turnsToLess 32 = .ok (.if_icmp .eq 16, 3) := by decide +kernel
theorem dX1_turnsToLess_35 : decode cX1_turnsToLess 35 = .ok (.iload 4, 2) := by decide +kernel
theorem dX1_turnsToLess_37 : decode cX1_turnsToLess 37 = .ok (.iload 5, 2) := by decide +kernel
theorem dX1_turnsToLess_39 : decode cX1_turnsToLess 39 = .ok (.if_icmp .ge 7, 3) := by decide +kernel
theorem dX1_turnsToLess_42 : decode cX1_turnsToLess 42 = .ok (.iconst 1, 1) := by decide +kernel
theorem dX1_turnsToLess_43 : decode cX1_turnsToLess 43 = .ok (.goto 4, 3) := by decide +kernel
theorem dX1_turnsToLess_46 : decode cX1_turnsToLess 46 = .ok (.iconst 0, 1) := by decide +kernel
theorem dX1_turnsToLess_47 : decode cX1_turnsToLess 47 = .ok (.ireturn, 1) := by decide +kernel
theorem dX1_turnsToLess_48 : decode cX1_turnsToLess 48 = .ok (.iinc 3 1, 3) := by decide +kernel
theorem dX1_turnsToLess_51 : decode cX1_turnsToLess 51 = .ok (.goto (-49), 3) := by decide +kernel
theorem dX1_turnsToLess_54 : decode cX1_turnsToLess 54 = .ok (.iconst 0, 1) := by decide +kernel
theorem dX1_turnsToLess_55 : decode cX1_turnsToLess 55 = .ok (.ireturn, 1) := by decide +kernel
set_option maxRecDepth 20000 in
theorem ggX1_allAround_X1_at : GoodIn wsX1_allAround wsX1_at := goodIn_r _ [6, 1, 7, 8, 9] (by decide +kernel) (by decide +kernel)
set_option maxRecDepth 20000 in
theorem gX1_allAround_X1_at : GoodIn wsX1_allAround (wsV RX1 25 RX1 yX1_at wsX1_at) := goodIn_app (goodIn_of _ (by decide +kernel)) ggX1_allAround_X1_at
theorem dX1_allAround_0 : decode cX1_allAround 0 = .ok (.aload_n 0, 1) := by decide +kernel
theorem dX1_allAround_1 : decode cX1_allAround 1 = .ok (.iload_n 1, 1) := by decide +kernel
theorem dX1_allAround_2 : decode cX1_allAround 2 = .ok (.aload_n 0, 1) := by decide +kernel
theorem dX1_allAround_3 : decode cX1_allAround 3 = .ok (.getfield 15, 3) := by decide +kernel
theorem dX1_allAround_6 : decode cX1_allAround 6 = .ok (.if_icmp .ge 7, 3) := by decide +kernel
theorem dX1_allAround_9 : decode cX1_allAround 9 = .ok (.iload_n 1, 1) := by decide +kernel
theorem dX1_allAround_10 : decode cX1_allAround 10 = .ok (.goto 9, 3) := by decide +kernel
theorem dX1_allAround_13 : decode cX1_allAround 13 = .ok (.iload_n 1, 1) := by decide +kernel
theorem dX1_allAround_14 : decode cX1_allAround 14 = .ok (.aload_n 0, 1) := by decide +kernel
theorem dX1_allAround_15 : decode cX1_allAround 15 = .ok (.getfield 15, 3) := by decide +kernel
theorem dX1_allAround_18 : decode cX1_allAround 18 = .ok (.isub, 1) := by decide +kernel
theorem dX1_allAround_19 : decode cX1_allAround 19 = .ok (.invokevirtual 25, 3) := by decide +kernel
theorem dX1_allAround_22 : decode cX1_allAround 22 = .ok (.ireturn, 1) := by decide +kernel
set_option maxRecDepth 20000 in
theorem ggX2_init_X0_init : GoodIn wsX2_init wsX0_init := goodIn_r _ [15, 16, 2, 3, 17, 10, 11, 18, 19, 20, 21, 22, 23, 24, 25, 26, 33, 34, 28, 29] (by decide +kernel) (by decide +kernel)
set_option maxRecDepth 20000 in
theorem gX2_init_X0_init : GoodIn wsX2_init (wsX0_init) := ggX2_init_X0_init
set_option maxRecDepth 20000 in
theorem ggX2_init_X1_init : GoodIn wsX2_init wsX1_init := goodIn_r _ [23, 24, 2, 3, 19, 25, 26, 33, 34] (by decide +kernel) (by decide +kernel)
set_option maxRecDepth 20000 in
theorem gX2_init_X1_init : GoodIn wsX2_init (wsX1_init) := ggX2_init_X1_init
theorem dX2_init_0 : decode cX2_init 0 = .ok (.aload_n 0, 1) := by decide +kernel
theorem dX2_init_1 : decode cX2_init 1 = .ok (.invokespecial 1, 3) := by decide +kernel
theorem dX2_init_4 : decode cX2_init 4 = .ok (.aload_n 0, 1) := by decide +kernel
theorem dX2_init_5 : decode cX2_init 5 = .ok (.new 7, 3) := by decide +kernel
theorem dX2_init_8 : decode cX2_init 8 = .ok (.dup, 1) := by decide +kernel
theorem dX2_init_9 : decode cX2_init 9 = .ok (.invokespecial 9, 3) := by decide +kernel
theorem dX2_init_12 : decode cX2_init 12 = .ok (.putfield 10, 3) := by decide +kernel
theorem dX2_init_15 : decode cX2_init 15 = .ok (.aload_n 0, 1) := by decide +kernel
theorem dX2_init_16 : decode cX2_init 16 = .ok (.new 7, 3) := by decide +kernel
theorem dX2_init_19 : decode cX2_init 19 = .ok (.dup, 1) := by decide +kernel
theorem dX2_init_20 : decode cX2_init 20 = .ok (.invokespecial 9, 3) := by decide +kernel
theorem dX2_init_23 : decode cX2_init 23 = .ok (.putfield 16, 3) := by decide +kernel
theorem dX2_init_26 : decode cX2_init 26 = .ok (.aload_n 0, 1) := by decide +kernel
theorem dX2_init_27 : decode cX2_init 27 = .ok (.new 19, 3) := by decide +kernel
theorem dX2_init_30 : decode cX2_init 30 = .ok (.dup, 1) := by decide +kernel
theorem dX2_init_31 : decode cX2_init 31 = .ok (.invokespecial 21, 3) := by decide +kernel
theorem dX2_init_34 : decode cX2_init 34 = .ok (.putfield 22, 3) := by decide +kernel
theorem dX2_init_37 : decode cX2_init 37 = .ok (.return_, 1) := by decide +kernel
set_option maxRecDepth 20000 in
theorem ggX2_sew_X2_hemOf : GoodIn wsX2_sew wsX2_hemOf := goodIn_ca (goodIn_r _ [7, 8, 9, 10, 11, 59, 60, 61] (by decide +kernel) (by decide +kernel)) (goodIn_sub (fun _ h => List.mem_cons_of_mem _ (List.mem_append_left _ (List.mem_append_right _ h))) (by decide +kernel))
set_option maxRecDepth 20000 in
theorem gX2_sew_X2_hemOf : GoodIn wsX2_sew (wsV RX2 26 RX2 yX2_hemOf wsX2_hemOf) := goodIn_app (goodIn_of _ (by decide +kernel)) ggX2_sew_X2_hemOf
set_option maxRecDepth 20000 in
theorem ggX2_sew_X2_requireStitch : GoodIn wsX2_sew wsX2_requireStitch := goodIn_ca (goodIn_r _ [14, 15, 16] (by decide +kernel) (by decide +kernel)) (goodIn_sub (fun _ h => List.mem_cons_of_mem _ (List.mem_append_right _ h)) (by decide +kernel))
set_option maxRecDepth 20000 in
theorem gX2_sew_X2_requireStitch : GoodIn wsX2_sew (va_wsS RX2 30 yX2_requireStitch wsX2_requireStitch) := goodIn_app (goodIn_of _ (by decide +kernel)) ggX2_sew_X2_requireStitch
set_option maxRecDepth 20000 in
theorem ggX2_sew_X0_sewOn : GoodIn wsX2_sew wsX0_sewOn := goodIn_r _ [21, 22, 23, 24, 25, 26, 27, 28, 29, 30, 31, 32, 20, 33, 34, 35, 36, 37, 38, 39, 40, 41, 42, 43, 44, 45, 46, 47, 48, 49, 50, 51, 52, 53, 54, 55, 56, 57, 58] (by decide +kernel) (by decide +kernel)
set_option maxRecDepth 20000 in
theorem gX2_sew_X0_sewOn : GoodIn wsX2_sew (wsV RX2 48 RX0 yX0_sewOn wsX0_sewOn) := goodIn_app (goodIn_of _ (by decide +kernel)) ggX2_sew_X0_sewOn
theorem dX2_sew_0 : decode cX2_sew 0 = .ok (.aload_n 0, 1) := by decide +kernel
theorem dX2_sew_1 : decode cX2_sew 1 = .ok (.iload_n 1, 1) := by decide +kernel
theorem dX2_sew_2 : decode cX2_sew 2 = .ok (.invokevirtual 26, 3) := by decide +kernel
theorem dX2_sew_5 : decode cX2_sew 5 = .ok (.astore_n 3, 1) := by decide +kernel
theorem dX2_sew_6 : decode cX2_sew 6 = .ok (.iload_n 2, 1) := by decide +kernel
theorem dX2_sew_7 : decode cX2_sew 7 = .ok (.invokestatic 30, 3) := by decide +kernel
theorem dX2_sew_10 : decode cX2_sew 10 = .ok (.aload_n 3, 1) := by decide +kernel
theorem dX2_sew_11 : decode cX2_sew 11 = .ok (.getfield 34, 3) := by decide +kernel
theorem dX2_sew_14 : decode cX2_sew 14 = .ok (.getfield 37, 3) := by decide +kernel
theorem dX2_sew_17 : decode cX2_sew 17 = .ok (.bipush 40, 2) := by decide +kernel
theorem dX2_sew_19 : decode cX2_sew 19 = .ok (.if_icmp .lt 13, 3) := by decide +kernel
theorem dX2_sew_22 : decode cX2_sew 22 = .ok (.new 41, 3) := by decide +kernel
theorem dX2_sew_25 : decode cX2_sew 25 = .ok (.dup, 1) := by decide +kernel
theorem dX2_sew_26 : decode cX2_sew 26 = .ok (.ldc 43, 2) := by decide +kernel
theorem dX2_sew_28 : decode cX2_sew 28 = .ok (.invokespecial 45, 3) := by decide +kernel
theorem dX2_sew_31 : decode cX2_sew 31 = .ok (.athrow, 1) := by decide +kernel
theorem dX2_sew_32 : decode cX2_sew 32 = .ok (.aload_n 3, 1) := by decide +kernel
theorem dX2_sew_33 : decode cX2_sew 33 = .ok (.iload_n 2, 1) := by decide +kernel
theorem dX2_sew_34 : decode cX2_sew 34 = .ok (.invokevirtual 48, 3) := by decide +kernel
theorem dX2_sew_37 : decode cX2_sew 37 = .ok (.aload_n 3, 1) := by decide +kernel
theorem dX2_sew_38 : decode cX2_sew 38 = .ok (.getfield 34, 3) := by decide +kernel
theorem dX2_sew_41 : decode cX2_sew 41 = .ok (.getfield 37, 3) := by decide +kernel
theorem dX2_sew_44 : decode cX2_sew 44 = .ok (.ireturn, 1) := by decide +kernel
set_option maxRecDepth 20000 in
theorem ggX2_again_X2_hemOf : GoodIn wsX2_again wsX2_hemOf := goodIn_ca (goodIn_r _ [9, 10, 11, 12, 13, 57, 58, 59] (by decide +kernel) (by decide +kernel)) (goodIn_sub (fun _ h => List.mem_cons_of_mem _ (List.mem_append_right _ h)) (by decide +kernel))
set_option maxRecDepth 20000 in
theorem gX2_again_X2_hemOf : GoodIn wsX2_again (wsV RX2 26 RX2 yX2_hemOf wsX2_hemOf) := goodIn_app (goodIn_of _ (by decide +kernel)) ggX2_again_X2_hemOf
set_option maxRecDepth 20000 in
theorem ggX2_again_X0_sewBeginning : GoodIn wsX2_again wsX0_sewBeginning := goodIn_r _ [18, 19, 20, 21, 22, 23, 24, 25, 26, 27, 28, 29, 30, 31, 32, 33, 17, 34, 35, 36, 37, 38, 39, 40, 41, 42, 43, 44, 45, 46, 47, 48, 49, 50, 51, 52, 53, 54, 55, 56] (by decide +kernel) (by decide +kernel)
set_option maxRecDepth 20000 in
theorem gX2_again_X0_sewBeginning : GoodIn wsX2_again (wsV RX2 58 RX0 yX0_sewBeginning wsX0_sewBeginning) := goodIn_app (goodIn_of _ (by decide +kernel)) ggX2_again_X0_sewBeginning
theorem dX2_again_0 : decode cX2_again 0 = .ok (.aload_n 0, 1) := by decide +kernel
theorem dX2_again_1 : decode cX2_again 1 = .ok (.iload_n 1, 1) := by decide +kernel
theorem dX2_again_2 : decode cX2_again 2 = .ok (.invokevirtual 26, 3) := by decide +kernel
theorem dX2_again_5 : decode cX2_again 5 = .ok (.astore_n 3, 1) := by decide +kernel
theorem dX2_again_6 : decode cX2_again 6 = .ok (.iload_n 2, 1) := by decide +kernel
theorem dX2_again_7 : decode cX2_again 7 = .ok (.iconst 1, 1) := by decide +kernel
theorem dX2_again_8 : decode cX2_again 8 = .ok (.if_icmp .lt 9, 3) := by decide +kernel
theorem dX2_again_11 : decode cX2_again 11 = .ok (.iload_n 2, 1) := by decide +kernel
theorem dX2_again_12 : decode cX2_again 12 = .ok (.bipush 40, 2) := by decide +kernel
theorem dX2_again_14 : decode cX2_again 14 = .ok (.if_icmp .le 13, 3) := by decide +kernel
theorem dX2_again_17 : decode cX2_again 17 = .ok (.new 51, 3) := by decide +kernel
theorem dX2_again_20 : decode cX2_again 20 = .ok (.dup, 1) := by decide +kernel
theorem dX2_again_21 : decode cX2_again 21 = .ok (.ldc 53, 2) := by decide +kernel
theorem dX2_again_23 : decode cX2_again 23 = .ok (.invokespecial 55, 3) := by decide +kernel
theorem dX2_again_26 : decode cX2_again 26 = .ok (.athrow, 1) := by decide +kernel
theorem dX2_again_27 : decode cX2_again 27 = .ok (.aload_n 3, 1) := by decide +kernel
theorem dX2_again_28 : decode cX2_again 28 = .ok (.getfield 34, 3) := by decide +kernel
theorem dX2_again_31 : decode cX2_again 31 = .ok (.getfield 37, 3) := by decide +kernel
theorem dX2_again_34 : decode cX2_again 34 = .ok (.istore 4, 2) := by decide +kernel
theorem dX2_again_36 : decode cX2_again 36 = .ok (.iload 4, 2) := by decide +kernel
theorem dX2_again_38 : decode cX2_again 38 = .ok (.ifCond .eq 12, 3) := by decide +kernel
theorem dX2_again_41 : decode cX2_again 41 = .ok (.iload 4, 2) := by decide +kernel
theorem dX2_again_43 : decode cX2_again 43 = .ok (.iload_n 2, 1) := by decide +kernel
theorem dX2_again_44 : decode cX2_again 44 = .ok (.iadd, 1) := by decide +kernel
theorem dX2_again_45 : decode cX2_again 45 = .ok (.bipush 40, 2) := by decide +kernel
theorem dX2_again_47 : decode cX2_again 47 = .ok (.if_icmp .le 13, 3) := by decide +kernel
theorem dX2_again_50 : decode cX2_again 50 = .ok (.new 41, 3) := by decide +kernel
theorem dX2_again_53 : decode cX2_again 53 = .ok (.dup, 1) := by decide +kernel
theorem dX2_again_54 : decode cX2_again 54 = .ok (.ldc 56, 2) := by decide +kernel
theorem dX2_again_56 : decode cX2_again 56 = .ok (.invokespecial 45, 3) := by decide +kernel
theorem dX2_again_59 : decode cX2_again 59 = .ok (.athrow, 1) := by decide +kernel
theorem dX2_again_60 : decode cX2_again 60 = .ok (.aload_n 3, 1) := by decide +kernel
theorem dX2_again_61 : decode cX2_again 61 = .ok (.iload_n 2, 1) := by decide +kernel
theorem dX2_again_62 : decode cX2_again 62 = .ok (.invokevirtual 58, 3) := by decide +kernel
theorem dX2_again_65 : decode cX2_again 65 = .ok (.aload_n 3, 1) := by decide +kernel
theorem dX2_again_66 : decode cX2_again 66 = .ok (.getfield 34, 3) := by decide +kernel
theorem dX2_again_69 : decode cX2_again 69 = .ok (.getfield 37, 3) := by decide +kernel
theorem dX2_again_72 : decode cX2_again 72 = .ok (.ireturn, 1) := by decide +kernel
set_option maxRecDepth 20000 in
theorem ggX2_unpick_X2_hemOf : GoodIn wsX2_unpick wsX2_hemOf := goodIn_ca (goodIn_r _ [7, 8, 9, 10, 11, 54, 55, 56] (by decide +kernel) (by decide +kernel)) (goodIn_sub (fun _ h => List.mem_cons_of_mem _ (List.mem_append_right _ h)) (by decide +kernel))
set_option maxRecDepth 20000 in
theorem gX2_unpick_X2_hemOf : GoodIn wsX2_unpick (wsV RX2 26 RX2 yX2_hemOf wsX2_hemOf) := goodIn_app (goodIn_of _ (by decide +kernel)) ggX2_unpick_X2_hemOf
set_option maxRecDepth 20000 in
theorem ggX2_unpick_X0_takeOff : GoodIn wsX2_unpick wsX0_takeOff := goodIn_r _ [16, 17, 18, 19, 20, 21, 22, 23, 24, 25, 26, 15, 27, 28, 29, 30, 31, 32, 33, 34, 35, 36, 37, 38, 39, 40, 41, 42, 43, 44, 45, 46, 47, 48, 49, 50, 51, 52, 53] (by decide +kernel) (by decide +kernel)
set_option maxRecDepth 20000 in
theorem gX2_unpick_X0_takeOff : GoodIn wsX2_unpick (wsV RX2 63 RX0 yX0_takeOff wsX0_takeOff) := goodIn_app (goodIn_of _ (by decide +kernel)) ggX2_unpick_X0_takeOff
theorem dX2_unpick_0 : decode cX2_unpick 0 = .ok (.aload_n 0, 1) := by decide +kernel
theorem dX2_unpick_1 : decode cX2_unpick 1 = .ok (.iload_n 1, 1) := by decide +kernel
theorem dX2_unpick_2 : decode cX2_unpick 2 = .ok (.invokevirtual 26, 3) := by decide +kernel
theorem dX2_unpick_5 : decode cX2_unpick 5 = .ok (.astore_n 3, 1) := by decide +kernel
theorem dX2_unpick_6 : decode cX2_unpick 6 = .ok (.iload_n 2, 1) := by decide +kernel
theorem dX2_unpick_7 : decode cX2_unpick 7 = .ok (.iconst 1, 1) := by decide +kernel
theorem dX2_unpick_8 : decode cX2_unpick 8 = .ok (.if_icmp .lt 14, 3) := by decide +kernel
theorem dX2_unpick_11 : decode cX2_unpick 11 = .ok (.iload_n 2, 1) := by decide +kernel
theorem dX2_unpick_12 : decode cX2_unpick 12 = .ok (.aload_n 3, 1) := by decide +kernel
theorem dX2_unpick_13 : decode cX2_unpick 13 = .ok (.getfield 34, 3) := by decide +kernel
theorem dX2_unpick_16 : decode cX2_unpick 16 = .ok (.getfield 37, 3) := by decide +kernel
theorem dX2_unpick_19 : decode cX2_unpick 19 = .ok (.if_icmp .le 13, 3) := by decide +kernel
theorem dX2_unpick_22 : decode cX2_unpick 22 = .ok (.new 51, 3) := by decide +kernel
theorem dX2_unpick_25 : decode cX2_unpick 25 = .ok (.dup, 1) := by decide +kernel
theorem dX2_unpick_26 : decode cX2_unpick 26 = .ok (.ldc 61, 2) := by decide +kernel
theorem dX2_unpick_28 : decode cX2_unpick 28 = .ok (.invokespecial 55, 3) := by decide +kernel
theorem dX2_unpick_31 : decode cX2_unpick 31 = .ok (.athrow, 1) := by decide +kernel
theorem dX2_unpick_32 : decode cX2_unpick 32 = .ok (.aload_n 3, 1) := by decide +kernel
theorem dX2_unpick_33 : decode cX2_unpick 33 = .ok (.iload_n 2, 1) := by decide +kernel
theorem dX2_unpick_34 : decode cX2_unpick 34 = .ok (.invokevirtual 63, 3) := by decide +kernel
theorem dX2_unpick_37 : decode cX2_unpick 37 = .ok (.aload_n 3, 1) := by decide +kernel
theorem dX2_unpick_38 : decode cX2_unpick 38 = .ok (.getfield 34, 3) := by decide +kernel
theorem dX2_unpick_41 : decode cX2_unpick 41 = .ok (.getfield 37, 3) := by decide +kernel
theorem dX2_unpick_44 : decode cX2_unpick 44 = .ok (.ireturn, 1) := by decide +kernel
set_option maxRecDepth 20000 in
theorem ggX2_add_X2_requireStitch : GoodIn wsX2_add wsX2_requireStitch := goodIn_ca (goodIn_r _ [7, 8, 9] (by decide +kernel) (by decide +kernel)) (goodIn_sub (fun _ h => List.mem_cons_of_mem _ (List.mem_append_right _ h)) (by decide +kernel))
set_option maxRecDepth 20000 in
theorem gX2_add_X2_requireStitch : GoodIn wsX2_add (va_wsS RX2 30 yX2_requireStitch wsX2_requireStitch) := goodIn_app (goodIn_of _ (by decide +kernel)) ggX2_add_X2_requireStitch
set_option maxRecDepth 20000 in
theorem ggX2_add_X1_append : GoodIn wsX2_add wsX1_append := goodIn_r _ [14, 15, 16, 20, 21] (by decide +kernel) (by decide +kernel)
set_option maxRecDepth 20000 in
theorem gX2_add_X1_append : GoodIn wsX2_add (wsV RX2 68 RX1 yX1_append wsX1_append) := goodIn_app (goodIn_of _ (by decide +kernel)) ggX2_add_X1_append
theorem dX2_add_0 : decode cX2_add 0 = .ok (.iload_n 1, 1) := by decide +kernel
theorem dX2_add_1 : decode cX2_add 1 = .ok (.invokestatic 30, 3) := by decide +kernel
theorem dX2_add_4 : decode cX2_add 4 = .ok (.aload_n 0, 1) := by decide +kernel
theorem dX2_add_5 : decode cX2_add 5 = .ok (.getfield 22, 3) := by decide +kernel
theorem dX2_add_8 : decode cX2_add 8 = .ok (.getfield 37, 3) := by decide +kernel
theorem dX2_add_11 : decode cX2_add 11 = .ok (.bipush 12, 2) := by decide +kernel
theorem dX2_add_13 : decode cX2_add 13 = .ok (.if_icmp .lt 13, 3) := by decide +kernel
theorem dX2_add_16 : decode cX2_add 16 = .ok (.new 41, 3) := by decide +kernel
theorem dX2_add_19 : decode cX2_add 19 = .ok (.dup, 1) := by decide +kernel
theorem dX2_add_20 : decode cX2_add 20 = .ok (.ldc 66, 2) := by decide +kernel
theorem dX2_add_22 : decode cX2_add 22 = .ok (.invokespecial 45, 3) := by decide +kernel
theorem dX2_add_25 : decode cX2_add 25 = .ok (.athrow, 1) := by decide +kernel
theorem dX2_add_26 : decode cX2_add 26 = .ok (.aload_n 0, 1) := by decide +kernel
theorem dX2_add_27 : decode cX2_add 27 = .ok (.getfield 22, 3) := by decide +kernel
theorem dX2_add_30 : decode cX2_add 30 = .ok (.iload_n 1, 1) := by decide +kernel
theorem dX2_add_31 : decode cX2_add 31 = .ok (.invokevirtual 68, 3) := by decide +kernel
theorem dX2_add_34 : decode cX2_add 34 = .ok (.aload_n 0, 1) := by decide +kernel
theorem dX2_add_35 : decode cX2_add 35 = .ok (.getfield 22, 3) := by decide +kernel
theorem dX2_add_38 : decode cX2_add 38 = .ok (.getfield 37, 3) := by decide +kernel
theorem dX2_add_41 : decode cX2_add 41 = .ok (.ireturn, 1) := by decide +kernel
set_option maxRecDepth 20000 in
theorem ggX2_clear_X1_drop : GoodIn wsX2_clear wsX1_drop := goodIn_r _ [6, 7, 11, 12] (by decide +kernel) (by decide +kernel)
set_option maxRecDepth 20000 in
theorem gX2_clear_X1_drop : GoodIn wsX2_clear (wsV RX2 71 RX1 yX1_drop wsX1_drop) := goodIn_app (goodIn_of _ (by decide +kernel)) ggX2_clear_X1_drop
theorem dX2_clear_0 : decode cX2_clear 0 = .ok (.aload_n 0, 1) := by decide +kernel
theorem dX2_clear_1 : decode cX2_clear 1 = .ok (.getfield 22, 3) := by decide +kernel
theorem dX2_clear_4 : decode cX2_clear 4 = .ok (.getfield 37, 3) := by decide +kernel
theorem dX2_clear_7 : decode cX2_clear 7 = .ok (.istore_n 1, 1) := by decide +kernel
theorem dX2_clear_8 : decode cX2_clear 8 = .ok (.aload_n 0, 1) := by decide +kernel
theorem dX2_clear_9 : decode cX2_clear 9 = .ok (.getfield 22, 3) := by decide +kernel
theorem dX2_clear_12 : decode cX2_clear 12 = .ok (.iload_n 1, 1) := by decide +kernel
theorem dX2_clear_13 : decode cX2_clear 13 = .ok (.invokevirtual 71, 3) := by decide +kernel
theorem dX2_clear_16 : decode cX2_clear 16 = .ok (.iload_n 1, 1) := by decide +kernel
theorem dX2_clear_17 : decode cX2_clear 17 = .ok (.ireturn, 1) := by decide +kernel
set_option maxRecDepth 20000 in
theorem ggX2_stitch_X2_hemOf : GoodIn wsX2_stitch wsX2_hemOf := goodIn_ca (goodIn_r _ [5, 6, 7, 8, 9, 22, 23, 24] (by decide +kernel) (by decide +kernel)) (goodIn_sub (fun _ h => List.mem_cons_of_mem _ (List.mem_append_right _ h)) (by decide +kernel))
set_option maxRecDepth 20000 in
theorem gX2_stitch_X2_hemOf : GoodIn wsX2_stitch (wsV RX2 26 RX2 yX2_hemOf wsX2_hemOf) := goodIn_app (goodIn_of _ (by decide +kernel)) ggX2_stitch_X2_hemOf
set_option maxRecDepth 20000 in
theorem ggX2_stitch_X2_requirePlace : GoodIn wsX2_stitch wsX2_requirePlace := goodIn_ca (goodIn_r _ [12, 6, 7, 25, 26] (by decide +kernel) (by decide +kernel)) (goodIn_sub (fun _ h => List.mem_cons_of_mem _ (List.mem_append_right _ h)) (by decide +kernel))
set_option maxRecDepth 20000 in
theorem gX2_stitch_X2_requirePlace : GoodIn wsX2_stitch (va_wsS RX2 74 yX2_requirePlace wsX2_requirePlace) := goodIn_app (goodIn_of _ (by decide +kernel)) ggX2_stitch_X2_requirePlace
set_option maxRecDepth 20000 in
theorem ggX2_stitch_X1_at : GoodIn wsX2_stitch wsX1_at := goodIn_r _ [17, 18, 19, 25, 26] (by decide +kernel) (by decide +kernel)
set_option maxRecDepth 20000 in
theorem gX2_stitch_X1_at : GoodIn wsX2_stitch (wsV RX2 78 RX1 yX1_at wsX1_at) := goodIn_app (goodIn_of _ (by decide +kernel)) ggX2_stitch_X1_at
theorem dX2_stitch_0 : decode cX2_stitch 0 = .ok (.aload_n 0, 1) := by decide +kernel
theorem dX2_stitch_1 : decode cX2_stitch 1 = .ok (.iload_n 1, 1) := by decide +kernel
theorem dX2_stitch_2 : decode cX2_stitch 2 = .ok (.invokevirtual 26, 3) := by decide +kernel
theorem dX2_stitch_5 : decode cX2_stitch 5 = .ok (.getfield 34, 3) := by decide +kernel
theorem dX2_stitch_8 : decode cX2_stitch 8 = .ok (.astore_n 3, 1) := by decide +kernel
theorem dX2_stitch_9 : decode cX2_stitch 9 = .ok (.aload_n 3, 1) := by decide +kernel
theorem dX2_stitch_10 : decode cX2_stitch 10 = .ok (.iload_n 2, 1) := by decide +kernel
theorem dX2_stitch_11 : decode cX2_stitch 11 = .ok (.invokestatic 74, 3) := by decide +kernel
theorem dX2_stitch_14 : decode cX2_stitch 14 = .ok (.aload_n 3, 1) := by decide +kernel
theorem dX2_stitch_15 : decode cX2_stitch 15 = .ok (.iload_n 2, 1) := by decide +kernel
theorem dX2_stitch_16 : decode cX2_stitch 16 = .ok (.invokevirtual 78, 3) := by decide +kernel
theorem dX2_stitch_19 : decode cX2_stitch 19 = .ok (.ireturn, 1) := by decide +kernel
set_option maxRecDepth 20000 in
theorem ggX2_count_X0_differentRows : GoodIn wsX2_count wsX0_differentRows := goodIn_r _ [10, 11, 12, 13, 14, 9, 15, 16, 17, 18, 19, 20, 21, 22, 23, 24, 25, 26, 27, 28, 29, 30, 31, 32, 33, 34, 35, 36, 37, 38, 39, 61, 62, 63, 64] (by decide +kernel) (by decide +kernel)
set_option maxRecDepth 20000 in
theorem gX2_count_X0_differentRows : GoodIn wsX2_count (wsV RX2 82 RX0 yX0_differentRows wsX0_differentRows) := goodIn_app (goodIn_of _ (by decide +kernel)) ggX2_count_X0_differentRows
set_option maxRecDepth 20000 in
theorem ggX2_count_X2_seamPlace : GoodIn wsX2_count wsX2_seamPlace := goodIn_r _ [44, 3, 45, 17, 18, 9, 19, 11, 20, 46, 47, 48, 43, 49, 4, 50, 51, 52, 28, 53, 30, 54, 55, 33, 56, 57, 26, 27, 29, 31, 32, 34, 35, 36, 37, 38, 39, 58, 59, 60, 61, 62, 63, 64] (by decide +kernel) (by decide +kernel)
set_option maxRecDepth 20000 in
theorem gX2_count_X2_seamPlace : GoodIn wsX2_count (wsV RX2 86 RX2 yX2_seamPlace wsX2_seamPlace) := goodIn_app (goodIn_of _ (by decide +kernel)) ggX2_count_X2_seamPlace
set_option maxRecDepth 20000 in
theorem ggX2_count_X2_seamLengthFrom : GoodIn wsX2_count wsX2_seamLengthFrom := goodIn_r _ [49, 3, 4, 50, 51, 52, 28, 53, 30, 54, 55, 33, 56, 57, 26, 27, 29, 31, 32, 34, 35, 36, 37, 38, 39, 58, 59, 60, 61, 62, 63, 64] (by decide +kernel) (by decide +kernel)
set_option maxRecDepth 20000 in
theorem gX2_count_X2_seamLengthFrom : GoodIn wsX2_count (wsV RX2 89 RX2 yX2_seamLengthFrom wsX2_seamLengthFrom) := goodIn_app (goodIn_of _ (by decide +kernel)) ggX2_count_X2_seamLengthFrom
theorem dX2_count_0 : decode cX2_count 0 = .ok (.iload_n 1, 1) := by decide +kernel
theorem dX2_count_1 : decode cX2_count 1 = .ok (.tableswitch 94 0 5 #[39, 50, 61, 69, 77, 85], 39) := by decide +kernel
theorem dX2_count_40 : decode cX2_count 40 = .ok (.aload_n 0, 1) := by decide +kernel
theorem dX2_count_41 : decode cX2_count 41 = .ok (.getfield 10, 3) := by decide +kernel
theorem dX2_count_44 : decode cX2_count 44 = .ok (.getfield 34, 3) := by decide +kernel
theorem dX2_count_47 : decode cX2_count 47 = .ok (.getfield 37, 3) := by decide +kernel
theorem dX2_count_50 : decode cX2_count 50 = .ok (.ireturn, 1) := by decide +kernel
theorem dX2_count_51 : decode cX2_count 51 = .ok (.aload_n 0, 1) := by decide +kernel
theorem dX2_count_52 : decode cX2_count 52 = .ok (.getfield 16, 3) := by decide +kernel
theorem dX2_count_55 : decode cX2_count 55 = .ok (.getfield 34, 3) := by decide +kernel
theorem dX2_count_58 : decode cX2_count 58 = .ok (.getfield 37, 3) := by decide +kernel
theorem dX2_count_61 : decode cX2_count 61 = .ok (.ireturn, 1) := by decide +kernel
theorem dX2_count_62 : decode cX2_count 62 = .ok (.aload_n 0, 1) := by decide +kernel
theorem dX2_count_63 : decode cX2_count 63 = .ok (.getfield 22, 3) := by decide +kernel
theorem dX2_count_66 : decode cX2_count 66 = .ok (.getfield 37, 3) := by decide +kernel
theorem dX2_count_69 : decode cX2_count 69 = .ok (.ireturn, 1) := by decide +kernel
theorem dX2_count_70 : decode cX2_count 70 = .ok (.aload_n 0, 1) := by decide +kernel
theorem dX2_count_71 : decode cX2_count 71 = .ok (.getfield 10, 3) := by decide +kernel
theorem dX2_count_74 : decode cX2_count 74 = .ok (.invokevirtual 82, 3) := by decide +kernel
theorem dX2_count_77 : decode cX2_count 77 = .ok (.ireturn, 1) := by decide +kernel
theorem dX2_count_78 : decode cX2_count 78 = .ok (.aload_n 0, 1) := by decide +kernel
theorem dX2_count_79 : decode cX2_count 79 = .ok (.getfield 16, 3) := by decide +kernel
theorem dX2_count_82 : decode cX2_count 82 = .ok (.invokevirtual 82, 3) := by decide +kernel
theorem dX2_count_85 : decode cX2_count 85 = .ok (.ireturn, 1) := by decide +kernel
theorem dX2_count_86 : decode cX2_count 86 = .ok (.aload_n 0, 1) := by decide +kernel
theorem dX2_count_87 : decode cX2_count 87 = .ok (.aload_n 0, 1) := by decide +kernel
theorem dX2_count_88 : decode cX2_count 88 = .ok (.invokevirtual 86, 3) := by decide +kernel
theorem dX2_count_91 : decode cX2_count 91 = .ok (.invokevirtual 89, 3) := by decide +kernel
theorem dX2_count_94 : decode cX2_count 94 = .ok (.ireturn, 1) := by decide +kernel
theorem dX2_count_95 : decode cX2_count 95 = .ok (.new 92, 3) := by decide +kernel
theorem dX2_count_98 : decode cX2_count 98 = .ok (.dup, 1) := by decide +kernel
theorem dX2_count_99 : decode cX2_count 99 = .ok (.ldc 94, 2) := by decide +kernel
theorem dX2_count_101 : decode cX2_count 101 = .ok (.invokespecial 96, 3) := by decide +kernel
theorem dX2_count_104 : decode cX2_count 104 = .ok (.athrow, 1) := by decide +kernel
set_option maxRecDepth 20000 in
theorem ggX2_end_X2_hemOf : GoodIn wsX2_end wsX2_hemOf := goodIn_ca (goodIn_r _ [5, 6, 7, 8, 9, 22, 23, 24] (by decide +kernel) (by decide +kernel)) (goodIn_sub (fun _ h => List.mem_cons_of_mem _ (List.mem_append_right _ h)) (by decide +kernel))
set_option maxRecDepth 20000 in
theorem gX2_end_X2_hemOf : GoodIn wsX2_end (wsV RX2 26 RX2 yX2_hemOf wsX2_hemOf) := goodIn_app (goodIn_of _ (by decide +kernel)) ggX2_end_X2_hemOf
set_option maxRecDepth 20000 in
theorem ggX2_end_X2_requirePlace : GoodIn wsX2_end wsX2_requirePlace := goodIn_ca (goodIn_r _ [12, 6, 7, 25, 26] (by decide +kernel) (by decide +kernel)) (goodIn_sub (fun _ h => List.mem_cons_of_mem _ (List.mem_append_right _ h)) (by decide +kernel))
set_option maxRecDepth 20000 in
theorem gX2_end_X2_requirePlace : GoodIn wsX2_end (va_wsS RX2 74 yX2_requirePlace wsX2_requirePlace) := goodIn_app (goodIn_of _ (by decide +kernel)) ggX2_end_X2_requirePlace
set_option maxRecDepth 20000 in
theorem ggX2_end_X0_placeAt : GoodIn wsX2_end wsX0_placeAt := goodIn_r _ [17, 18, 19, 20, 21, 25, 26] (by decide +kernel) (by decide +kernel)
set_option maxRecDepth 20000 in
theorem gX2_end_X0_placeAt : GoodIn wsX2_end (wsV RX2 97 RX0 yX0_placeAt wsX0_placeAt) := goodIn_app (goodIn_of _ (by decide +kernel)) ggX2_end_X0_placeAt
theorem dX2_end_0 : decode cX2_end 0 = .ok (.aload_n 0, 1) := by decide +kernel
theorem dX2_end_1 : decode cX2_end 1 = .ok (.iload_n 1, 1) := by decide +kernel
theorem dX2_end_2 : decode cX2_end 2 = .ok (.invokevirtual 26, 3) := by decide +kernel
theorem dX2_end_5 : decode cX2_end 5 = .ok (.astore_n 3, 1) := by decide +kernel
theorem dX2_end_6 : decode cX2_end 6 = .ok (.aload_n 3, 1) := by decide +kernel
theorem dX2_end_7 : decode cX2_end 7 = .ok (.getfield 34, 3) := by decide +kernel
theorem dX2_end_10 : decode cX2_end 10 = .ok (.iload_n 2, 1) := by decide +kernel
theorem dX2_end_11 : decode cX2_end 11 = .ok (.invokestatic 74, 3) := by decide +kernel
theorem dX2_end_14 : decode cX2_end 14 = .ok (.aload_n 3, 1) := by decide +kernel
theorem dX2_end_15 : decode cX2_end 15 = .ok (.iload_n 2, 1) := by decide +kernel
theorem dX2_end_16 : decode cX2_end 16 = .ok (.invokevirtual 97, 3) := by decide +kernel
theorem dX2_end_19 : decode cX2_end 19 = .ok (.ireturn, 1) := by decide +kernel
set_option maxRecDepth 20000 in
theorem ggX2_rank_X2_hemOf : GoodIn wsX2_rank wsX2_hemOf := goodIn_ca (goodIn_r _ [5, 6, 7, 8, 9, 26, 27, 28] (by decide +kernel) (by decide +kernel)) (goodIn_sub (fun _ h => List.mem_cons_of_mem _ (List.mem_append_right _ h)) (by decide +kernel))
set_option maxRecDepth 20000 in
theorem gX2_rank_X2_hemOf : GoodIn wsX2_rank (wsV RX2 26 RX2 yX2_hemOf wsX2_hemOf) := goodIn_app (goodIn_of _ (by decide +kernel)) ggX2_rank_X2_hemOf
set_option maxRecDepth 20000 in
theorem ggX2_rank_X2_requirePlace : GoodIn wsX2_rank wsX2_requirePlace := goodIn_ca (goodIn_r _ [12, 6, 7, 29, 30] (by decide +kernel) (by decide +kernel)) (goodIn_sub (fun _ h => List.mem_cons_of_mem _ (List.mem_append_right _ h)) (by decide +kernel))
set_option maxRecDepth 20000 in
theorem gX2_rank_X2_requirePlace : GoodIn wsX2_rank (va_wsS RX2 74 yX2_requirePlace wsX2_requirePlace) := goodIn_app (goodIn_of _ (by decide +kernel)) ggX2_rank_X2_requirePlace
set_option maxRecDepth 20000 in
theorem ggX2_rank_X0_rankOf : GoodIn wsX2_rank wsX0_rankOf := goodIn_r _ [17, 18, 19, 20, 21, 16, 22, 23, 24, 25, 29, 30] (by decide +kernel) (by decide +kernel)
set_option maxRecDepth 20000 in
theorem gX2_rank_X0_rankOf : GoodIn wsX2_rank (wsV RX2 100 RX0 yX0_rankOf wsX0_rankOf) := goodIn_app (goodIn_of _ (by decide +kernel)) ggX2_rank_X0_rankOf
theorem dX2_rank_0 : decode cX2_rank 0 = .ok (.aload_n 0, 1) := by decide +kernel
theorem dX2_rank_1 : decode cX2_rank 1 = .ok (.iload_n 1, 1) := by decide +kernel
theorem dX2_rank_2 : decode cX2_rank 2 = .ok (.invokevirtual 26, 3) := by decide +kernel
theorem dX2_rank_5 : decode cX2_rank 5 = .ok (.astore_n 3, 1) := by decide +kernel
theorem dX2_rank_6 : decode cX2_rank 6 = .ok (.aload_n 3, 1) := by decide +kernel
theorem dX2_rank_7 : decode cX2_rank 7 = .ok (.getfield 34, 3) := by decide +kernel
theorem dX2_rank_10 : decode cX2_rank 10 = .ok (.iload_n 2, 1) := by decide +kernel
theorem dX2_rank_11 : decode cX2_rank 11 = .ok (.invokestatic 74, 3) := by decide +kernel
theorem dX2_rank_14 : decode cX2_rank 14 = .ok (.aload_n 3, 1) := by decide +kernel
theorem dX2_rank_15 : decode cX2_rank 15 = .ok (.iload_n 2, 1) := by decide +kernel
theorem dX2_rank_16 : decode cX2_rank 16 = .ok (.invokevirtual 100, 3) := by decide +kernel
theorem dX2_rank_19 : decode cX2_rank 19 = .ok (.ireturn, 1) := by decide +kernel
set_option maxRecDepth 20000 in
theorem ggX2_common_X2_hemOf : GoodIn wsX2_common wsX2_hemOf := goodIn_ca (goodIn_r _ [5, 6, 7, 8, 9, 30, 31, 32] (by decide +kernel) (by decide +kernel)) (goodIn_sub (fun _ h => List.mem_cons_of_mem _ (List.mem_append_right _ h)) (by decide +kernel))
set_option maxRecDepth 20000 in
theorem gX2_common_X2_hemOf : GoodIn wsX2_common (wsV RX2 26 RX2 yX2_hemOf wsX2_hemOf) := goodIn_app (goodIn_of _ (by decide +kernel)) ggX2_common_X2_hemOf
set_option maxRecDepth 20000 in
theorem ggX2_common_X2_requirePlace : GoodIn wsX2_common wsX2_requirePlace := goodIn_ca (goodIn_r _ [12, 6, 7, 33, 34] (by decide +kernel) (by decide +kernel)) (goodIn_sub (fun _ h => List.mem_cons_of_mem _ (List.mem_append_right _ h)) (by decide +kernel))
set_option maxRecDepth 20000 in
theorem gX2_common_X2_requirePlace : GoodIn wsX2_common (va_wsS RX2 74 yX2_requirePlace wsX2_requirePlace) := goodIn_app (goodIn_of _ (by decide +kernel)) ggX2_common_X2_requirePlace
set_option maxRecDepth 20000 in
theorem ggX2_common_X1_sharedWith : GoodIn wsX2_common wsX1_sharedWith := goodIn_r _ [17, 18, 19, 20, 21, 22, 23, 24, 25, 16, 26, 27, 33, 34] (by decide +kernel) (by decide +kernel)
set_option maxRecDepth 20000 in
theorem gX2_common_X1_sharedWith : GoodIn wsX2_common (wsV RX2 103 RX1 yX1_sharedWith wsX1_sharedWith) := goodIn_app (goodIn_of _ (by decide +kernel)) ggX2_common_X1_sharedWith
theorem dX2_common_0 : decode cX2_common 0 = .ok (.aload_n 0, 1) := by decide +kernel
theorem dX2_common_1 : decode cX2_common 1 = .ok (.iload_n 1, 1) := by decide +kernel
theorem dX2_common_2 : decode cX2_common 2 = .ok (.invokevirtual 26, 3) := by decide +kernel
theorem dX2_common_5 : decode cX2_common 5 = .ok (.getfield 34, 3) := by decide +kernel
theorem dX2_common_8 : decode cX2_common 8 = .ok (.astore 4, 2) := by decide +kernel
theorem dX2_common_10 : decode cX2_common 10 = .ok (.aload 4, 2) := by decide +kernel
theorem dX2_common_12 : decode cX2_common 12 = .ok (.iload_n 2, 1) := by decide +kernel
theorem dX2_common_13 : decode cX2_common 13 = .ok (.invokestatic 74, 3) := by decide +kernel
theorem dX2_common_16 : decode cX2_common 16 = .ok (.aload 4, 2) := by decide +kernel
theorem dX2_common_18 : decode cX2_common 18 = .ok (.iload_n 3, 1) := by decide +kernel
theorem dX2_common_19 : decode cX2_common 19 = .ok (.invokestatic 74, 3) := by decide +kernel
theorem dX2_common_22 : decode cX2_common 22 = .ok (.aload 4, 2) := by decide +kernel
theorem dX2_common_24 : decode cX2_common 24 = .ok (.iload_n 2, 1) := by decide +kernel
theorem dX2_common_25 : decode cX2_common 25 = .ok (.aload 4, 2) := by decide +kernel
theorem dX2_common_27 : decode cX2_common 27 = .ok (.iload_n 3, 1) := by decide +kernel
theorem dX2_common_28 : decode cX2_common 28 = .ok (.invokevirtual 103, 3) := by decide +kernel
theorem dX2_common_31 : decode cX2_common 31 = .ok (.ireturn, 1) := by decide +kernel
set_option maxRecDepth 20000 in
theorem ggX2_against_X2_requirePlace : GoodIn wsX2_against wsX2_requirePlace := goodIn_ca (goodIn_r _ [6, 7, 8, 33, 34] (by decide +kernel) (by decide +kernel)) (goodIn_sub (fun _ h => List.mem_cons_of_mem _ (List.mem_append_right _ h)) (by decide +kernel))
set_option maxRecDepth 20000 in
theorem gX2_against_X2_requirePlace : GoodIn wsX2_against (va_wsS RX2 74 yX2_requirePlace wsX2_requirePlace) := goodIn_app (goodIn_of _ (by decide +kernel)) ggX2_against_X2_requirePlace
set_option maxRecDepth 20000 in
theorem ggX2_against_X1_difference : GoodIn wsX2_against wsX1_difference := goodIn_r _ [13, 14, 15, 16, 12, 17, 18, 19, 20, 21, 22, 23, 24, 25, 26, 27, 33, 34] (by decide +kernel) (by decide +kernel)
set_option maxRecDepth 20000 in
theorem gX2_against_X1_difference : GoodIn wsX2_against (wsV RX2 107 RX1 yX1_difference wsX1_difference) := goodIn_app (goodIn_of _ (by decide +kernel)) ggX2_against_X1_difference
theorem dX2_against_0 : decode cX2_against 0 = .ok (.aload_n 0, 1) := by decide +kernel
theorem dX2_against_1 : decode cX2_against 1 = .ok (.getfield 10, 3) := by decide +kernel
theorem dX2_against_4 : decode cX2_against 4 = .ok (.getfield 34, 3) := by decide +kernel
theorem dX2_against_7 : decode cX2_against 7 = .ok (.iload_n 1, 1) := by decide +kernel
theorem dX2_against_8 : decode cX2_against 8 = .ok (.invokestatic 74, 3) := by decide +kernel
theorem dX2_against_11 : decode cX2_against 11 = .ok (.aload_n 0, 1) := by decide +kernel
theorem dX2_against_12 : decode cX2_against 12 = .ok (.getfield 16, 3) := by decide +kernel
theorem dX2_against_15 : decode cX2_against 15 = .ok (.getfield 34, 3) := by decide +kernel
theorem dX2_against_18 : decode cX2_against 18 = .ok (.iload_n 2, 1) := by decide +kernel
theorem dX2_against_19 : decode cX2_against 19 = .ok (.invokestatic 74, 3) := by decide +kernel
theorem dX2_against_22 : decode cX2_against 22 = .ok (.aload_n 0, 1) := by decide +kernel
theorem dX2_against_23 : decode cX2_against 23 = .ok (.getfield 10, 3) := by decide +kernel
theorem dX2_against_26 : decode cX2_against 26 = .ok (.getfield 34, 3) := by decide +kernel
theorem dX2_against_29 : decode cX2_against 29 = .ok (.iload_n 1, 1) := by decide +kernel
theorem dX2_against_30 : decode cX2_against 30 = .ok (.aload_n 0, 1) := by decide +kernel
theorem dX2_against_31 : decode cX2_against 31 = .ok (.getfield 16, 3) := by decide +kernel
theorem dX2_against_34 : decode cX2_against 34 = .ok (.getfield 34, 3) := by decide +kernel
theorem dX2_against_37 : decode cX2_against 37 = .ok (.iload_n 2, 1) := by decide +kernel
theorem dX2_against_38 : decode cX2_against 38 = .ok (.invokevirtual 107, 3) := by decide +kernel
theorem dX2_against_41 : decode cX2_against 41 = .ok (.ireturn, 1) := by decide +kernel
set_option maxRecDepth 20000 in
theorem ggX2_repeat_X2_hemOf : GoodIn wsX2_repeat wsX2_hemOf := goodIn_ca (goodIn_r _ [7, 1, 2, 8, 9, 57, 58, 59] (by decide +kernel) (by decide +kernel)) (goodIn_sub (fun _ h => List.mem_cons_of_mem _ (List.mem_append_right _ h)) (by decide +kernel))
set_option maxRecDepth 20000 in
theorem gX2_repeat_X2_hemOf : GoodIn wsX2_repeat (wsV RX2 26 RX2 yX2_hemOf wsX2_hemOf) := goodIn_app (goodIn_of _ (by decide +kernel)) ggX2_repeat_X2_hemOf
set_option maxRecDepth 20000 in
theorem ggX2_repeat_X0_repeatRank : GoodIn wsX2_repeat wsX0_repeatRank := goodIn_r _ [14, 15, 16, 17, 18, 13, 19, 20, 21, 22, 23, 24, 25, 26, 27, 28, 29, 30, 31, 32, 33, 34, 35, 36, 37, 38, 39, 55, 56, 60, 61] (by decide +kernel) (by decide +kernel)
set_option maxRecDepth 20000 in
theorem gX2_repeat_X0_repeatRank : GoodIn wsX2_repeat (wsV RX2 112 RX0 yX0_repeatRank wsX0_repeatRank) := goodIn_app (goodIn_of _ (by decide +kernel)) ggX2_repeat_X0_repeatRank
set_option maxRecDepth 20000 in
theorem ggX2_repeat_X0_sharedWithNext : GoodIn wsX2_repeat wsX0_sharedWithNext := goodIn_r _ [19, 15, 20, 21, 22, 13, 23, 24, 25, 26, 27, 28, 29, 30, 31, 32, 33, 34, 35, 36, 37, 38, 39, 55, 56, 60, 61] (by decide +kernel) (by decide +kernel)
set_option maxRecDepth 20000 in
theorem gX2_repeat_X0_sharedWithNext : GoodIn wsX2_repeat (wsV RX2 115 RX0 yX0_sharedWithNext wsX0_sharedWithNext) := goodIn_app (goodIn_of _ (by decide +kernel)) ggX2_repeat_X0_sharedWithNext
set_option maxRecDepth 20000 in
theorem ggX2_repeat_X0_placeAt : GoodIn wsX2_repeat wsX0_placeAt := goodIn_r _ [23, 15, 24, 55, 56, 60, 61] (by decide +kernel) (by decide +kernel)
set_option maxRecDepth 20000 in
theorem gX2_repeat_X0_placeAt : GoodIn wsX2_repeat (wsV RX2 97 RX0 yX0_placeAt wsX0_placeAt) := goodIn_app (goodIn_of _ (by decide +kernel)) ggX2_repeat_X0_placeAt
set_option maxRecDepth 20000 in
theorem ggX2_repeat_X1_firstPlaceOf : GoodIn wsX2_repeat wsX1_firstPlaceOf := goodIn_r _ [45, 30, 46, 47, 48, 28, 49, 50, 26, 27, 29, 31, 32, 33, 34, 35, 36, 37, 38, 39, 60, 61] (by decide +kernel) (by decide +kernel)
set_option maxRecDepth 20000 in
theorem gX2_repeat_X1_firstPlaceOf : GoodIn wsX2_repeat (wsV RX2 118 RX1 yX1_firstPlaceOf wsX1_firstPlaceOf) := goodIn_app (goodIn_of _ (by decide +kernel)) ggX2_repeat_X1_firstPlaceOf
set_option maxRecDepth 20000 in
theorem ggX2_repeat_X1_placesOf : GoodIn wsX2_repeat wsX1_placesOf := goodIn_r _ [54, 30, 46, 47, 48, 28, 49, 50, 26, 27, 29, 31, 32, 33, 34, 35, 36, 37, 38, 39, 60, 61] (by decide +kernel) (by decide +kernel)
set_option maxRecDepth 20000 in
theorem gX2_repeat_X1_placesOf : GoodIn wsX2_repeat (wsV RX2 122 RX1 yX1_placesOf wsX1_placesOf) := goodIn_app (goodIn_of _ (by decide +kernel)) ggX2_repeat_X1_placesOf
theorem dX2_repeat_0 : decode cX2_repeat 0 = .ok (.aload_n 0, 1) := by decide +kernel
theorem dX2_repeat_1 : decode cX2_repeat 1 = .ok (.iload_n 1, 1) := by decide +kernel
theorem dX2_repeat_2 : decode cX2_repeat 2 = .ok (.invokevirtual 26, 3) := by decide +kernel
theorem dX2_repeat_5 : decode cX2_repeat 5 = .ok (.astore_n 3, 1) := by decide +kernel
theorem dX2_repeat_6 : decode cX2_repeat 6 = .ok (.iload_n 2, 1) := by decide +kernel
theorem dX2_repeat_7 : decode cX2_repeat 7 = .ok (.ifCond .lt 8, 3) := by decide +kernel
theorem dX2_repeat_10 : decode cX2_repeat 10 = .ok (.iload_n 2, 1) := by decide +kernel
theorem dX2_repeat_11 : decode cX2_repeat 11 = .ok (.iconst 3, 1) := by decide +kernel
theorem dX2_repeat_12 : decode cX2_repeat 12 = .ok (.if_icmp .lt 13, 3) := by decide +kernel
theorem dX2_repeat_15 : decode cX2_repeat 15 = .ok (.new 92, 3) := by decide +kernel
theorem dX2_repeat_18 : decode cX2_repeat 18 = .ok (.dup, 1) := by decide +kernel
theorem dX2_repeat_19 : decode cX2_repeat 19 = .ok (.ldc 110, 2) := by decide +kernel
theorem dX2_repeat_21 : decode cX2_repeat 21 = .ok (.invokespecial 96, 3) := by decide +kernel
theorem dX2_repeat_24 : decode cX2_repeat 24 = .ok (.athrow, 1) := by decide +kernel
theorem dX2_repeat_25 : decode cX2_repeat 25 = .ok (.aload_n 3, 1) := by decide +kernel
theorem dX2_repeat_26 : decode cX2_repeat 26 = .ok (.invokevirtual 112, 3) := by decide +kernel
theorem dX2_repeat_29 : decode cX2_repeat 29 = .ok (.istore 4, 2) := by decide +kernel
theorem dX2_repeat_31 : decode cX2_repeat 31 = .ok (.aload_n 3, 1) := by decide +kernel
theorem dX2_repeat_32 : decode cX2_repeat 32 = .ok (.iload 4, 2) := by decide +kernel
theorem dX2_repeat_34 : decode cX2_repeat 34 = .ok (.invokevirtual 115, 3) := by decide +kernel
theorem dX2_repeat_37 : decode cX2_repeat 37 = .ok (.istore 5, 2) := by decide +kernel
theorem dX2_repeat_39 : decode cX2_repeat 39 = .ok (.iload_n 2, 1) := by decide +kernel
theorem dX2_repeat_40 : decode cX2_repeat 40 = .ok (.ifCond .ne 6, 3) := by decide +kernel
theorem dX2_repeat_43 : decode cX2_repeat 43 = .ok (.iload 5, 2) := by decide +kernel
theorem dX2_repeat_45 : decode cX2_repeat 45 = .ok (.ireturn, 1) := by decide +kernel
theorem dX2_repeat_46 : decode cX2_repeat 46 = .ok (.aload_n 3, 1) := by decide +kernel
theorem dX2_repeat_47 : decode cX2_repeat 47 = .ok (.iload 4, 2) := by decide +kernel
theorem dX2_repeat_49 : decode cX2_repeat 49 = .ok (.invokevirtual 97, 3) := by decide +kernel
theorem dX2_repeat_52 : decode cX2_repeat 52 = .ok (.istore 6, 2) := by decide +kernel
theorem dX2_repeat_54 : decode cX2_repeat 54 = .ok (.iload_n 2, 1) := by decide +kernel
theorem dX2_repeat_55 : decode cX2_repeat 55 = .ok (.iconst 1, 1) := by decide +kernel
theorem dX2_repeat_56 : decode cX2_repeat 56 = .ok (.if_icmp .ne 19, 3) := by decide +kernel
theorem dX2_repeat_59 : decode cX2_repeat 59 = .ok (.aload_n 3, 1) := by decide +kernel
theorem dX2_repeat_60 : decode cX2_repeat 60 = .ok (.getfield 34, 3) := by decide +kernel
theorem dX2_repeat_63 : decode cX2_repeat 63 = .ok (.aload_n 3, 1) := by decide +kernel
theorem dX2_repeat_64 : decode cX2_repeat 64 = .ok (.getfield 34, 3) := by decide +kernel
theorem dX2_repeat_67 : decode cX2_repeat 67 = .ok (.iload 6, 2) := by decide +kernel
theorem dX2_repeat_69 : decode cX2_repeat 69 = .ok (.iload 5, 2) := by decide +kernel
theorem dX2_repeat_71 : decode cX2_repeat 71 = .ok (.invokevirtual 118, 3) := by decide +kernel
theorem dX2_repeat_74 : decode cX2_repeat 74 = .ok (.ireturn, 1) := by decide +kernel
theorem dX2_repeat_75 : decode cX2_repeat 75 = .ok (.aload_n 3, 1) := by decide +kernel
theorem dX2_repeat_76 : decode cX2_repeat 76 = .ok (.getfield 34, 3) := by decide +kernel
theorem dX2_repeat_79 : decode cX2_repeat 79 = .ok (.aload_n 3, 1) := by decide +kernel
theorem dX2_repeat_80 : decode cX2_repeat 80 = .ok (.getfield 34, 3) := by decide +kernel
theorem dX2_repeat_83 : decode cX2_repeat 83 = .ok (.iload 6, 2) := by decide +kernel
theorem dX2_repeat_85 : decode cX2_repeat 85 = .ok (.iload 5, 2) := by decide +kernel
theorem dX2_repeat_87 : decode cX2_repeat 87 = .ok (.invokevirtual 122, 3) := by decide +kernel
theorem dX2_repeat_90 : decode cX2_repeat 90 = .ok (.ireturn, 1) := by decide +kernel
set_option maxRecDepth 20000 in
theorem ggX2_row_X2_hemOf : GoodIn wsX2_row wsX2_hemOf := goodIn_ca (goodIn_r _ [7, 1, 2, 8, 9, 57, 58, 59] (by decide +kernel) (by decide +kernel)) (goodIn_sub (fun _ h => List.mem_cons_of_mem _ (List.mem_append_right _ h)) (by decide +kernel))
set_option maxRecDepth 20000 in
theorem gX2_row_X2_hemOf : GoodIn wsX2_row (wsV RX2 26 RX2 yX2_hemOf wsX2_hemOf) := goodIn_app (goodIn_of _ (by decide +kernel)) ggX2_row_X2_hemOf
set_option maxRecDepth 20000 in
theorem ggX2_row_X0_differentRows : GoodIn wsX2_row wsX0_differentRows := goodIn_r _ [14, 15, 16, 17, 18, 13, 19, 20, 21, 22, 23, 24, 25, 26, 27, 28, 29, 30, 31, 32, 33, 34, 35, 36, 37, 38, 39, 40, 41, 42, 43, 60, 61, 62, 63] (by decide +kernel) (by decide +kernel)
set_option maxRecDepth 20000 in
theorem gX2_row_X0_differentRows : GoodIn wsX2_row (wsV RX2 82 RX0 yX0_differentRows wsX0_differentRows) := goodIn_app (goodIn_of _ (by decide +kernel)) ggX2_row_X0_differentRows
set_option maxRecDepth 20000 in
theorem ggX2_row_X0_rowOfNumber : GoodIn wsX2_row wsX0_rowOfNumber := goodIn_r _ [47, 15, 16, 17, 18, 13, 19, 20, 21, 22, 23, 24, 25, 26, 27, 28, 29, 30, 31, 32, 33, 34, 35, 36, 37, 38, 39, 40, 41, 42, 43, 48, 49, 50, 51, 52, 53, 54, 55, 56, 60, 61, 62, 63] (by decide +kernel) (by decide +kernel)
set_option maxRecDepth 20000 in
theorem gX2_row_X0_rowOfNumber : GoodIn wsX2_row (wsV RX2 127 RX0 yX0_rowOfNumber wsX0_rowOfNumber) := goodIn_app (goodIn_of _ (by decide +kernel)) ggX2_row_X0_rowOfNumber
theorem dX2_row_0 : decode cX2_row 0 = .ok (.aload_n 0, 1) := by decide +kernel
theorem dX2_row_1 : decode cX2_row 1 = .ok (.iload_n 1, 1) := by decide +kernel
theorem dX2_row_2 : decode cX2_row 2 = .ok (.invokevirtual 26, 3) := by decide +kernel
theorem dX2_row_5 : decode cX2_row 5 = .ok (.astore_n 3, 1) := by decide +kernel
theorem dX2_row_6 : decode cX2_row 6 = .ok (.iload_n 2, 1) := by decide +kernel
theorem dX2_row_7 : decode cX2_row 7 = .ok (.ifCond .lt 11, 3) := by decide +kernel
theorem dX2_row_10 : decode cX2_row 10 = .ok (.iload_n 2, 1) := by decide +kernel
theorem dX2_row_11 : decode cX2_row 11 = .ok (.aload_n 3, 1) := by decide +kernel
theorem dX2_row_12 : decode cX2_row 12 = .ok (.invokevirtual 82, 3) := by decide +kernel
theorem dX2_row_15 : decode cX2_row 15 = .ok (.if_icmp .lt 13, 3) := by decide +kernel
theorem dX2_row_18 : decode cX2_row 18 = .ok (.new 92, 3) := by decide +kernel
theorem dX2_row_21 : decode cX2_row 21 = .ok (.dup, 1) := by decide +kernel
theorem dX2_row_22 : decode cX2_row 22 = .ok (.ldc 125, 2) := by decide +kernel
theorem dX2_row_24 : decode cX2_row 24 = .ok (.invokespecial 96, 3) := by decide +kernel
theorem dX2_row_27 : decode cX2_row 27 = .ok (.athrow, 1) := by decide +kernel
theorem dX2_row_28 : decode cX2_row 28 = .ok (.aload_n 3, 1) := by decide +kernel
theorem dX2_row_29 : decode cX2_row 29 = .ok (.iload_n 2, 1) := by decide +kernel
theorem dX2_row_30 : decode cX2_row 30 = .ok (.invokevirtual 127, 3) := by decide +kernel
theorem dX2_row_33 : decode cX2_row 33 = .ok (.ireturn, 1) := by decide +kernel
set_option maxRecDepth 20000 in
theorem ggX2_found_X2_hemOf : GoodIn wsX2_found wsX2_hemOf := goodIn_ca (goodIn_r _ [6, 7, 8, 9, 10, 36, 37, 38] (by decide +kernel) (by decide +kernel)) (goodIn_sub (fun _ h => List.mem_cons_of_mem _ (List.mem_append_right _ h)) (by decide +kernel))
set_option maxRecDepth 20000 in
theorem gX2_found_X2_hemOf : GoodIn wsX2_found (wsV RX2 26 RX2 yX2_hemOf wsX2_hemOf) := goodIn_app (goodIn_of _ (by decide +kernel)) ggX2_found_X2_hemOf
set_option maxRecDepth 20000 in
theorem ggX2_found_X1_placesOf : GoodIn wsX2_found wsX1_placesOf := goodIn_r _ [15, 16, 17, 18, 19, 14, 20, 21, 22, 23, 24, 25, 26, 27, 28, 29, 30, 31, 32, 33, 39, 40] (by decide +kernel) (by decide +kernel)
set_option maxRecDepth 20000 in
theorem gX2_found_X1_placesOf : GoodIn wsX2_found (wsV RX2 122 RX1 yX1_placesOf wsX1_placesOf) := goodIn_app (goodIn_of _ (by decide +kernel)) ggX2_found_X1_placesOf
theorem dX2_found_0 : decode cX2_found 0 = .ok (.aload_n 0, 1) := by decide +kernel
theorem dX2_found_1 : decode cX2_found 1 = .ok (.iload_n 1, 1) := by decide +kernel
theorem dX2_found_2 : decode cX2_found 2 = .ok (.invokevirtual 26, 3) := by decide +kernel
theorem dX2_found_5 : decode cX2_found 5 = .ok (.getfield 34, 3) := by decide +kernel
theorem dX2_found_8 : decode cX2_found 8 = .ok (.aload_n 0, 1) := by decide +kernel
theorem dX2_found_9 : decode cX2_found 9 = .ok (.getfield 22, 3) := by decide +kernel
theorem dX2_found_12 : decode cX2_found 12 = .ok (.iconst 0, 1) := by decide +kernel
theorem dX2_found_13 : decode cX2_found 13 = .ok (.aload_n 0, 1) := by decide +kernel
theorem dX2_found_14 : decode cX2_found 14 = .ok (.getfield 22, 3) := by decide +kernel
theorem dX2_found_17 : decode cX2_found 17 = .ok (.getfield 37, 3) := by decide +kernel
theorem dX2_found_20 : decode cX2_found 20 = .ok (.invokevirtual 122, 3) := by decide +kernel
theorem dX2_found_23 : decode cX2_found 23 = .ok (.ireturn, 1) := by decide +kernel
set_option maxRecDepth 20000 in
theorem ggX2_first_X2_hemOf : GoodIn wsX2_first wsX2_hemOf := goodIn_ca (goodIn_r _ [6, 7, 8, 9, 10, 36, 37, 38] (by decide +kernel) (by decide +kernel)) (goodIn_sub (fun _ h => List.mem_cons_of_mem _ (List.mem_append_right _ h)) (by decide +kernel))
set_option maxRecDepth 20000 in
theorem gX2_first_X2_hemOf : GoodIn wsX2_first (wsV RX2 26 RX2 yX2_hemOf wsX2_hemOf) := goodIn_app (goodIn_of _ (by decide +kernel)) ggX2_first_X2_hemOf
set_option maxRecDepth 20000 in
theorem ggX2_first_X1_firstPlaceOf : GoodIn wsX2_first wsX1_firstPlaceOf := goodIn_r _ [15, 16, 17, 18, 19, 14, 20, 21, 22, 23, 24, 25, 26, 27, 28, 29, 30, 31, 32, 33, 39, 40] (by decide +kernel) (by decide +kernel)
set_option maxRecDepth 20000 in
theorem gX2_first_X1_firstPlaceOf : GoodIn wsX2_first (wsV RX2 118 RX1 yX1_firstPlaceOf wsX1_firstPlaceOf) := goodIn_app (goodIn_of _ (by decide +kernel)) ggX2_first_X1_firstPlaceOf
theorem dX2_first_0 : decode cX2_first 0 = .ok (.aload_n 0, 1) := by decide +kernel
theorem dX2_first_1 : decode cX2_first 1 = .ok (.iload_n 1, 1) := by decide +kernel
theorem dX2_first_2 : decode cX2_first 2 = .ok (.invokevirtual 26, 3) := by decide +kernel
theorem dX2_first_5 : decode cX2_first 5 = .ok (.getfield 34, 3) := by decide +kernel
theorem dX2_first_8 : decode cX2_first 8 = .ok (.aload_n 0, 1) := by decide +kernel
theorem dX2_first_9 : decode cX2_first 9 = .ok (.getfield 22, 3) := by decide +kernel
theorem dX2_first_12 : decode cX2_first 12 = .ok (.iconst 0, 1) := by decide +kernel
theorem dX2_first_13 : decode cX2_first 13 = .ok (.aload_n 0, 1) := by decide +kernel
theorem dX2_first_14 : decode cX2_first 14 = .ok (.getfield 22, 3) := by decide +kernel
theorem dX2_first_17 : decode cX2_first 17 = .ok (.getfield 37, 3) := by decide +kernel
theorem dX2_first_20 : decode cX2_first 20 = .ok (.invokevirtual 118, 3) := by decide +kernel
theorem dX2_first_23 : decode cX2_first 23 = .ok (.ireturn, 1) := by decide +kernel
set_option maxRecDepth 20000 in
theorem ggX2_period_X2_hemOf : GoodIn wsX2_period wsX2_hemOf := goodIn_ca (goodIn_r _ [5, 6, 7, 8, 9, 31, 32, 33] (by decide +kernel) (by decide +kernel)) (goodIn_sub (fun _ h => List.mem_cons_of_mem _ (List.mem_append_right _ h)) (by decide +kernel))
set_option maxRecDepth 20000 in
theorem gX2_period_X2_hemOf : GoodIn wsX2_period (wsV RX2 26 RX2 yX2_hemOf wsX2_hemOf) := goodIn_app (goodIn_of _ (by decide +kernel)) ggX2_period_X2_hemOf
set_option maxRecDepth 20000 in
theorem ggX2_period_X1_leastPeriod : GoodIn wsX2_period wsX1_leastPeriod := goodIn_r _ [14, 15, 16, 17, 18, 13, 19, 20, 21, 22, 23, 24, 25, 26, 27, 28, 34, 35] (by decide +kernel) (by decide +kernel)
set_option maxRecDepth 20000 in
theorem gX2_period_X1_leastPeriod : GoodIn wsX2_period (wsV RX2 130 RX1 yX1_leastPeriod wsX1_leastPeriod) := goodIn_app (goodIn_of _ (by decide +kernel)) ggX2_period_X1_leastPeriod
theorem dX2_period_0 : decode cX2_period 0 = .ok (.aload_n 0, 1) := by decide +kernel
theorem dX2_period_1 : decode cX2_period 1 = .ok (.iload_n 1, 1) := by decide +kernel
theorem dX2_period_2 : decode cX2_period 2 = .ok (.invokevirtual 26, 3) := by decide +kernel
theorem dX2_period_5 : decode cX2_period 5 = .ok (.getfield 34, 3) := by decide +kernel
theorem dX2_period_8 : decode cX2_period 8 = .ok (.invokevirtual 130, 3) := by decide +kernel
theorem dX2_period_11 : decode cX2_period 11 = .ok (.ireturn, 1) := by decide +kernel
set_option maxRecDepth 20000 in
theorem ggX2_turned_X2_hemOf : GoodIn wsX2_turned wsX2_hemOf := goodIn_ca (goodIn_r _ [5, 6, 7, 8, 9, 31, 32, 33] (by decide +kernel) (by decide +kernel)) (goodIn_sub (fun _ h => List.mem_cons_of_mem _ (List.mem_append_right _ h)) (by decide +kernel))
set_option maxRecDepth 20000 in
theorem gX2_turned_X2_hemOf : GoodIn wsX2_turned (wsV RX2 26 RX2 yX2_hemOf wsX2_hemOf) := goodIn_app (goodIn_of _ (by decide +kernel)) ggX2_turned_X2_hemOf
set_option maxRecDepth 20000 in
theorem ggX2_turned_X1_bestBeginning : GoodIn wsX2_turned wsX1_bestBeginning := goodIn_r _ [14, 15, 16, 17, 18, 13, 19, 20, 21, 22, 23, 24, 25, 26, 27, 28, 34, 35] (by decide +kernel) (by decide +kernel)
set_option maxRecDepth 20000 in
theorem gX2_turned_X1_bestBeginning : GoodIn wsX2_turned (wsV RX2 133 RX1 yX1_bestBeginning wsX1_bestBeginning) := goodIn_app (goodIn_of _ (by decide +kernel)) ggX2_turned_X1_bestBeginning
theorem dX2_turned_0 : decode cX2_turned 0 = .ok (.aload_n 0, 1) := by decide +kernel
theorem dX2_turned_1 : decode cX2_turned 1 = .ok (.iload_n 1, 1) := by decide +kernel
theorem dX2_turned_2 : decode cX2_turned 2 = .ok (.invokevirtual 26, 3) := by decide +kernel
theorem dX2_turned_5 : decode cX2_turned 5 = .ok (.getfield 34, 3) := by decide +kernel
theorem dX2_turned_8 : decode cX2_turned 8 = .ok (.invokevirtual 133, 3) := by decide +kernel
theorem dX2_turned_11 : decode cX2_turned 11 = .ok (.ireturn, 1) := by decide +kernel
set_option maxRecDepth 20000 in
theorem ggX2_seam_X2_seamPlace : GoodIn wsX2_seam wsX2_seamPlace := goodIn_r _ [9, 3, 10, 11, 12, 13, 14, 15, 16, 17, 18, 19, 8, 20, 4, 21, 22, 23, 24, 25, 26, 27, 28, 29, 30, 31, 32, 33, 34, 35, 36, 37, 38, 39, 40, 41, 42, 51, 52, 53, 54, 55, 56, 57] (by decide +kernel) (by decide +kernel)
set_option maxRecDepth 20000 in
theorem gX2_seam_X2_seamPlace : GoodIn wsX2_seam (wsV RX2 86 RX2 yX2_seamPlace wsX2_seamPlace) := goodIn_app (goodIn_of _ (by decide +kernel)) ggX2_seam_X2_seamPlace
set_option maxRecDepth 20000 in
theorem ggX2_seam_X2_seamLengthFrom : GoodIn wsX2_seam wsX2_seamLengthFrom := goodIn_r _ [20, 3, 4, 21, 22, 23, 24, 25, 26, 27, 28, 29, 30, 31, 32, 33, 34, 35, 36, 37, 38, 39, 40, 41, 42, 51, 52, 53, 54, 55, 56, 57] (by decide +kernel) (by decide +kernel)
set_option maxRecDepth 20000 in
theorem gX2_seam_X2_seamLengthFrom : GoodIn wsX2_seam (wsV RX2 89 RX2 yX2_seamLengthFrom wsX2_seamLengthFrom) := goodIn_app (goodIn_of _ (by decide +kernel)) ggX2_seam_X2_seamLengthFrom
set_option maxRecDepth 20000 in
theorem ggX2_seam_X1_firstPlaceOf : GoodIn wsX2_seam wsX1_firstPlaceOf := goodIn_r _ [46, 26, 47, 48, 49, 24, 50, 31, 32, 33, 34, 35, 36, 29, 37, 38, 39, 40, 41, 42, 56, 57] (by decide +kernel) (by decide +kernel)
set_option maxRecDepth 20000 in
theorem gX2_seam_X1_firstPlaceOf : GoodIn wsX2_seam (wsV RX2 118 RX1 yX1_firstPlaceOf wsX1_firstPlaceOf) := goodIn_app (goodIn_of _ (by decide +kernel)) ggX2_seam_X1_firstPlaceOf
theorem dX2_seam_0 : decode cX2_seam 0 = .ok (.iload_n 1, 1) := by decide +kernel
theorem dX2_seam_1 : decode cX2_seam 1 = .ok (.ifCond .lt 8, 3) := by decide +kernel
theorem dX2_seam_4 : decode cX2_seam 4 = .ok (.iload_n 1, 1) := by decide +kernel
theorem dX2_seam_5 : decode cX2_seam 5 = .ok (.iconst 3, 1) := by decide +kernel
theorem dX2_seam_6 : decode cX2_seam 6 = .ok (.if_icmp .lt 13, 3) := by decide +kernel
theorem dX2_seam_9 : decode cX2_seam 9 = .ok (.new 92, 3) := by decide +kernel
theorem dX2_seam_12 : decode cX2_seam 12 = .ok (.dup, 1) := by decide +kernel
theorem dX2_seam_13 : decode cX2_seam 13 = .ok (.ldc 110, 2) := by decide +kernel
theorem dX2_seam_15 : decode cX2_seam 15 = .ok (.invokespecial 96, 3) := by decide +kernel
theorem dX2_seam_18 : decode cX2_seam 18 = .ok (.athrow, 1) := by decide +kernel
theorem dX2_seam_19 : decode cX2_seam 19 = .ok (.aload_n 0, 1) := by decide +kernel
theorem dX2_seam_20 : decode cX2_seam 20 = .ok (.invokevirtual 86, 3) := by decide +kernel
theorem dX2_seam_23 : decode cX2_seam 23 = .ok (.istore_n 2, 1) := by decide +kernel
theorem dX2_seam_24 : decode cX2_seam 24 = .ok (.aload_n 0, 1) := by decide +kernel
theorem dX2_seam_25 : decode cX2_seam 25 = .ok (.iload_n 2, 1) := by decide +kernel
theorem dX2_seam_26 : decode cX2_seam 26 = .ok (.invokevirtual 89, 3) := by decide +kernel
theorem dX2_seam_29 : decode cX2_seam 29 = .ok (.istore_n 3, 1) := by decide +kernel
theorem dX2_seam_30 : decode cX2_seam 30 = .ok (.iload_n 1, 1) := by decide +kernel
theorem dX2_seam_31 : decode cX2_seam 31 = .ok (.ifCond .ne 5, 3) := by decide +kernel
theorem dX2_seam_34 : decode cX2_seam 34 = .ok (.iload_n 3, 1) := by decide +kernel
theorem dX2_seam_35 : decode cX2_seam 35 = .ok (.ireturn, 1) := by decide +kernel
theorem dX2_seam_36 : decode cX2_seam 36 = .ok (.iload_n 1, 1) := by decide +kernel
theorem dX2_seam_37 : decode cX2_seam 37 = .ok (.iconst 1, 1) := by decide +kernel
theorem dX2_seam_38 : decode cX2_seam 38 = .ok (.if_icmp .ne 13, 3) := by decide +kernel
theorem dX2_seam_41 : decode cX2_seam 41 = .ok (.aload_n 0, 1) := by decide +kernel
theorem dX2_seam_42 : decode cX2_seam 42 = .ok (.getfield 10, 3) := by decide +kernel
theorem dX2_seam_45 : decode cX2_seam 45 = .ok (.getfield 34, 3) := by decide +kernel
theorem dX2_seam_48 : decode cX2_seam 48 = .ok (.goto 10, 3) := by decide +kernel
theorem dX2_seam_51 : decode cX2_seam 51 = .ok (.aload_n 0, 1) := by decide +kernel
theorem dX2_seam_52 : decode cX2_seam 52 = .ok (.getfield 16, 3) := by decide +kernel
theorem dX2_seam_55 : decode cX2_seam 55 = .ok (.getfield 34, 3) := by decide +kernel
theorem dX2_seam_58 : decode cX2_seam 58 = .ok (.astore 4, 2) := by decide +kernel
theorem dX2_seam_60 : decode cX2_seam 60 = .ok (.aload 4, 2) := by decide +kernel
theorem dX2_seam_62 : decode cX2_seam 62 = .ok (.aload_n 0, 1) := by decide +kernel
theorem dX2_seam_63 : decode cX2_seam 63 = .ok (.getfield 10, 3) := by decide +kernel
theorem dX2_seam_66 : decode cX2_seam 66 = .ok (.getfield 34, 3) := by decide +kernel
theorem dX2_seam_69 : decode cX2_seam 69 = .ok (.iload_n 2, 1) := by decide +kernel
theorem dX2_seam_70 : decode cX2_seam 70 = .ok (.iload_n 3, 1) := by decide +kernel
theorem dX2_seam_71 : decode cX2_seam 71 = .ok (.invokevirtual 118, 3) := by decide +kernel
theorem dX2_seam_74 : decode cX2_seam 74 = .ok (.ireturn, 1) := by decide +kernel
set_option maxRecDepth 20000 in
theorem ggX2_mean_X0_neighbourPairs : GoodIn wsX2_mean wsX0_neighbourPairs := goodIn_r _ [7, 8, 40, 41, 42, 43] (by decide +kernel) (by decide +kernel)
set_option maxRecDepth 20000 in
theorem gX2_mean_X0_neighbourPairs : GoodIn wsX2_mean (wsV RX2 139 RX0 yX0_neighbourPairs wsX0_neighbourPairs) := goodIn_app (goodIn_of _ (by decide +kernel)) ggX2_mean_X0_neighbourPairs
set_option maxRecDepth 20000 in
theorem ggX2_mean_X0_sharedByNeighbours : GoodIn wsX2_mean wsX0_sharedByNeighbours := goodIn_r _ [12, 8, 13, 14, 15, 6, 16, 17, 18, 19, 20, 21, 22, 23, 24, 25, 26, 27, 28, 29, 30, 31, 32, 33, 34, 35, 36, 40, 41, 42, 43] (by decide +kernel) (by decide +kernel)
set_option maxRecDepth 20000 in
theorem gX2_mean_X0_sharedByNeighbours : GoodIn wsX2_mean (wsV RX2 142 RX0 yX0_sharedByNeighbours wsX0_sharedByNeighbours) := goodIn_app (goodIn_of _ (by decide +kernel)) ggX2_mean_X0_sharedByNeighbours
theorem dX2_mean_0 : decode cX2_mean 0 = .ok (.aload_n 0, 1) := by decide +kernel
theorem dX2_mean_1 : decode cX2_mean 1 = .ok (.getfield 10, 3) := by decide +kernel
theorem dX2_mean_4 : decode cX2_mean 4 = .ok (.invokevirtual 139, 3) := by decide +kernel
theorem dX2_mean_7 : decode cX2_mean 7 = .ok (.aload_n 0, 1) := by decide +kernel
theorem dX2_mean_8 : decode cX2_mean 8 = .ok (.getfield 16, 3) := by decide +kernel
theorem dX2_mean_11 : decode cX2_mean 11 = .ok (.invokevirtual 139, 3) := by decide +kernel
theorem dX2_mean_14 : decode cX2_mean 14 = .ok (.iadd, 1) := by decide +kernel
theorem dX2_mean_15 : decode cX2_mean 15 = .ok (.istore_n 1, 1) := by decide +kernel
theorem dX2_mean_16 : decode cX2_mean 16 = .ok (.iload_n 1, 1) := by decide +kernel
theorem dX2_mean_17 : decode cX2_mean 17 = .ok (.ifCond .ne 5, 3) := by decide +kernel
theorem dX2_mean_20 : decode cX2_mean 20 = .ok (.dconst 0, 1) := by decide +kernel
theorem dX2_mean_21 : decode cX2_mean 21 = .ok (.dreturn, 1) := by decide +kernel
theorem dX2_mean_22 : decode cX2_mean 22 = .ok (.aload_n 0, 1) := by decide +kernel
theorem dX2_mean_23 : decode cX2_mean 23 = .ok (.getfield 10, 3) := by decide +kernel
theorem dX2_mean_26 : decode cX2_mean 26 = .ok (.invokevirtual 142, 3) := by decide +kernel
theorem dX2_mean_29 : decode cX2_mean 29 = .ok (.aload_n 0, 1) := by decide +kernel
theorem dX2_mean_30 : decode cX2_mean 30 = .ok (.getfield 16, 3) := by decide +kernel
theorem dX2_mean_33 : decode cX2_mean 33 = .ok (.invokevirtual 142, 3) := by decide +kernel
theorem dX2_mean_36 : decode cX2_mean 36 = .ok (.iadd, 1) := by decide +kernel
theorem dX2_mean_37 : decode cX2_mean 37 = .ok (.istore_n 2, 1) := by decide +kernel
theorem dX2_mean_38 : decode cX2_mean 38 = .ok (.iload_n 2, 1) := by decide +kernel
theorem dX2_mean_39 : decode cX2_mean 39 = .ok (.i2d, 1) := by decide +kernel
theorem dX2_mean_40 : decode cX2_mean 40 = .ok (.iload_n 1, 1) := by decide +kernel
theorem dX2_mean_41 : decode cX2_mean 41 = .ok (.i2d, 1) := by decide +kernel
theorem dX2_mean_42 : decode cX2_mean 42 = .ok (.ddiv, 1) := by decide +kernel
theorem dX2_mean_43 : decode cX2_mean 43 = .ok (.dreturn, 1) := by decide +kernel
set_option maxRecDepth 20000 in
theorem ggX2_digest_X2_count : GoodIn wsX2_digest wsX2_count := goodIn_ca (goodIn_r _ [7, 8, 9, 10, 11, 2, 12, 13, 14, 15, 16, 17, 18, 19, 20, 21, 22, 23, 24, 25, 26, 27, 28, 29, 30, 31, 32, 33, 34, 35, 36, 37, 38, 39, 40, 41, 42, 43, 44, 45, 46, 47, 48, 6, 49, 50, 51, 52, 53, 54, 55, 56, 57, 58, 59, 60, 61, 62, 132, 133, 134, 135, 136, 137, 138] (by decide +kernel) (by decide +kernel)) (goodIn_sub (fun _ h => List.mem_cons_of_mem _ (List.mem_append_right _ h)) (by decide +kernel))
set_option maxRecDepth 20000 in
theorem gX2_digest_X2_count : GoodIn wsX2_digest (wsV RX2 147 RX2 yX2_count wsX2_count) := goodIn_app (goodIn_of _ (by decide +kernel)) ggX2_digest_X2_count
set_option maxRecDepth 20000 in
theorem ggX2_digest_X2_mixed : GoodIn wsX2_digest wsX2_mixed := goodIn_r _ [65, 66] (by decide +kernel) (by decide +kernel)
set_option maxRecDepth 20000 in
theorem gX2_digest_X2_mixed : GoodIn wsX2_digest (va_wsS RX2 150 yX2_mixed wsX2_mixed) := goodIn_app (goodIn_of _ (by decide +kernel)) ggX2_digest_X2_mixed
set_option maxRecDepth 20000 in
theorem ggX2_digest_X2_hemMixed : GoodIn wsX2_digest wsX2_hemMixed := goodIn_ca (goodIn_r _ [70, 71, 72, 73, 6, 74, 8, 9, 10, 11, 75, 76, 77, 78, 42, 43, 34, 44, 36, 45, 63, 64, 65, 66, 50, 23, 24, 15, 25, 17, 26, 79, 80, 81, 82, 83, 84, 85, 86, 27, 28, 29, 30, 22, 31, 32, 33, 35, 37, 38, 39, 40, 41, 87, 88, 89, 90, 91, 92, 93, 94, 95, 62, 96, 97, 98, 99, 100, 101, 102, 103, 104, 105, 106, 107, 108, 109, 110, 111, 112, 113, 114, 115, 116, 117, 118, 119, 120, 121, 122, 123, 124, 125, 126, 127, 2, 135, 136, 137, 138, 132, 133, 134] (by decide +kernel) (by decide +kernel)) (goodIn_sub (fun _ h => List.mem_cons_of_mem _ (List.mem_append_right _ h)) (by decide +kernel))
set_option maxRecDepth 20000 in
theorem gX2_digest_X2_hemMixed : GoodIn wsX2_digest (wsV RX2 154 RX2 yX2_hemMixed wsX2_hemMixed) := goodIn_app (goodIn_of _ (by decide +kernel)) ggX2_digest_X2_hemMixed
set_option maxRecDepth 20000 in
theorem ggX2_digest_X2_stitchesMixed : GoodIn wsX2_digest wsX2_stitchesMixed := goodIn_r _ [77, 78, 42, 43, 34, 44, 36, 45, 63, 64, 6, 65, 66, 137, 138] (by decide +kernel) (by decide +kernel)
set_option maxRecDepth 20000 in
theorem gX2_digest_X2_stitchesMixed : GoodIn wsX2_digest (va_wsS RX2 157 yX2_stitchesMixed wsX2_stitchesMixed) := goodIn_app (goodIn_of _ (by decide +kernel)) ggX2_digest_X2_stitchesMixed
set_option maxRecDepth 20000 in
theorem ggX2_digest_X2_seam : GoodIn wsX2_digest wsX2_seam := goodIn_ca (goodIn_r _ [131, 8, 9, 10, 11, 46, 47, 48, 6, 49, 50, 23, 24, 15, 25, 17, 26, 51, 52, 53, 54, 55, 56, 57, 34, 58, 36, 59, 60, 39, 61, 62, 32, 33, 35, 37, 38, 40, 41, 42, 43, 44, 45, 88, 89, 90, 91, 92, 93, 94, 95, 132, 133, 134, 135, 136, 137, 138] (by decide +kernel) (by decide +kernel)) (goodIn_sub (fun _ h => List.mem_cons_of_mem _ (List.mem_append_right _ h)) (by decide +kernel))
set_option maxRecDepth 20000 in
theorem gX2_digest_X2_seam : GoodIn wsX2_digest (wsV RX2 161 RX2 yX2_seam wsX2_seam) := goodIn_app (goodIn_of _ (by decide +kernel)) ggX2_digest_X2_seam
theorem dX2_digest_0 : decode cX2_digest 0 = .ok (.ldc2_w 145, 3) := by decide +kernel
theorem dX2_digest_3 : decode cX2_digest 3 = .ok (.lstore_n 1, 1) := by decide +kernel
theorem dX2_digest_4 : decode cX2_digest 4 = .ok (.iconst 0, 1) := by decide +kernel
theorem dX2_digest_5 : decode cX2_digest 5 = .ok (.istore_n 3, 1) := by decide +kernel
theorem dX2_digest_6 : decode cX2_digest 6 = .ok (.iload_n 3, 1) := by decide +kernel
theorem dX2_digest_7 : decode cX2_digest 7 = .ok (.bipush 6, 2) := by decide +kernel
theorem dX2_digest_9 : decode cX2_digest 9 = .ok (.if_icmp .ge 19, 3) := by decide +kernel
theorem dX2_digest_12 : decode cX2_digest 12 = .ok (.lload_n 1, 1) := by decide +kernel
theorem dX2_digest_13 : decode cX2_digest 13 = .ok (.aload_n 0, 1) := by decide +kernel
theorem dX2_digest_14 : decode cX2_digest 14 = .ok (.iload_n 3, 1) := by decide +kernel
theorem dX2_digest_15 : decode cX2_digest 15 = .ok (.invokevirtual 147, 3) := by decide +kernel
theorem dX2_digest_18 : decode cX2_digest 18 = .ok (.invokestatic 150, 3) := by decide +kernel
theorem dX2_digest_21 : decode cX2_digest 21 = .ok (.lstore_n 1, 1) := by decide +kernel
theorem dX2_digest_22 : decode cX2_digest 22 = .ok (.iinc 3 1, 3) := by decide +kernel
theorem dX2_digest_25 : decode cX2_digest 25 = .ok (.goto (-19), 3) := by decide +kernel
theorem dX2_digest_28 : decode cX2_digest 28 = .ok (.aload_n 0, 1) := by decide +kernel
theorem dX2_digest_29 : decode cX2_digest 29 = .ok (.lload_n 1, 1) := by decide +kernel
theorem dX2_digest_30 : decode cX2_digest 30 = .ok (.iconst 0, 1) := by decide +kernel
theorem dX2_digest_31 : decode cX2_digest 31 = .ok (.invokevirtual 154, 3) := by decide +kernel
theorem dX2_digest_34 : decode cX2_digest 34 = .ok (.lstore_n 1, 1) := by decide +kernel
theorem dX2_digest_35 : decode cX2_digest 35 = .ok (.aload_n 0, 1) := by decide +kernel
theorem dX2_digest_36 : decode cX2_digest 36 = .ok (.lload_n 1, 1) := by decide +kernel
theorem dX2_digest_37 : decode cX2_digest 37 = .ok (.iconst 1, 1) := by decide +kernel
theorem dX2_digest_38 : decode cX2_digest 38 = .ok (.invokevirtual 154, 3) := by decide +kernel
theorem dX2_digest_41 : decode cX2_digest 41 = .ok (.lstore_n 1, 1) := by decide +kernel
theorem dX2_digest_42 : decode cX2_digest 42 = .ok (.lload_n 1, 1) := by decide +kernel
theorem dX2_digest_43 : decode cX2_digest 43 = .ok (.aload_n 0, 1) := by decide +kernel
theorem dX2_digest_44 : decode cX2_digest 44 = .ok (.getfield 22, 3) := by decide +kernel
theorem dX2_digest_47 : decode cX2_digest 47 = .ok (.invokestatic 157, 3) := by decide +kernel
theorem dX2_digest_50 : decode cX2_digest 50 = .ok (.lstore_n 1, 1) := by decide +kernel
theorem dX2_digest_51 : decode cX2_digest 51 = .ok (.iconst 0, 1) := by decide +kernel
theorem dX2_digest_52 : decode cX2_digest 52 = .ok (.istore_n 3, 1) := by decide +kernel
theorem dX2_digest_53 : decode cX2_digest 53 = .ok (.iload_n 3, 1) := by decide +kernel
theorem dX2_digest_54 : decode cX2_digest 54 = .ok (.iconst 3, 1) := by decide +kernel
theorem dX2_digest_55 : decode cX2_digest 55 = .ok (.if_icmp .ge 19, 3) := by decide +kernel
theorem dX2_digest_58 : decode cX2_digest 58 = .ok (.lload_n 1, 1) := by decide +kernel
theorem dX2_digest_59 : decode cX2_digest 59 = .ok (.aload_n 0, 1) := by decide +kernel
theorem dX2_digest_60 : decode cX2_digest 60 = .ok (.iload_n 3, 1) := by decide +kernel
theorem dX2_digest_61 : decode cX2_digest 61 = .ok (.invokevirtual 161, 3) := by decide +kernel
theorem dX2_digest_64 : decode cX2_digest 64 = .ok (.invokestatic 150, 3) := by decide +kernel
theorem dX2_digest_67 : decode cX2_digest 67 = .ok (.lstore_n 1, 1) := by decide +kernel
theorem dX2_digest_68 : decode cX2_digest 68 = .ok (.iinc 3 1, 3) := by decide +kernel
theorem dX2_digest_71 : decode cX2_digest 71 = .ok (.goto (-18), 3) := by decide +kernel
theorem dX2_digest_74 : decode cX2_digest 74 = .ok (.lload_n 1, 1) := by decide +kernel
theorem dX2_digest_75 : decode cX2_digest 75 = .ok (.lreturn, 1) := by decide +kernel
set_option maxRecDepth 20000 in
theorem ggX2_hemMixed_X2_hemOf : GoodIn wsX2_hemMixed wsX2_hemOf := goodIn_ca (goodIn_r _ [5, 6, 7, 8, 9, 100, 101, 102] (by decide +kernel) (by decide +kernel)) (goodIn_sub (fun _ h => List.mem_cons_of_mem _ (List.mem_append_right _ h)) (by decide +kernel))
set_option maxRecDepth 20000 in
theorem gX2_hemMixed_X2_hemOf : GoodIn wsX2_hemMixed (wsV RX2 26 RX2 yX2_hemOf wsX2_hemOf) := goodIn_app (goodIn_of _ (by decide +kernel)) ggX2_hemMixed_X2_hemOf
set_option maxRecDepth 20000 in
theorem ggX2_hemMixed_X2_stitchesMixed : GoodIn wsX2_hemMixed wsX2_stitchesMixed := goodIn_r _ [12, 13, 14, 15, 16, 17, 18, 19, 20, 21, 4, 22, 23, 98, 99] (by decide +kernel) (by decide +kernel)
set_option maxRecDepth 20000 in
theorem gX2_hemMixed_X2_stitchesMixed : GoodIn wsX2_hemMixed (va_wsS RX2 157 yX2_stitchesMixed wsX2_stitchesMixed) := goodIn_app (goodIn_of _ (by decide +kernel)) ggX2_hemMixed_X2_stitchesMixed
set_option maxRecDepth 20000 in
theorem ggX2_hemMixed_X0_placeAt : GoodIn wsX2_hemMixed wsX0_placeAt := goodIn_r _ [28, 29, 30, 96, 97, 98, 99] (by decide +kernel) (by decide +kernel)
set_option maxRecDepth 20000 in
theorem gX2_hemMixed_X0_placeAt : GoodIn wsX2_hemMixed (wsV RX2 97 RX0 yX0_placeAt wsX0_placeAt) := goodIn_app (goodIn_of _ (by decide +kernel)) ggX2_hemMixed_X0_placeAt
set_option maxRecDepth 20000 in
theorem ggX2_hemMixed_X2_mixed : GoodIn wsX2_hemMixed wsX2_mixed := goodIn_r _ [22, 23] (by decide +kernel) (by decide +kernel)
set_option maxRecDepth 20000 in
theorem gX2_hemMixed_X2_mixed : GoodIn wsX2_hemMixed (va_wsS RX2 150 yX2_mixed wsX2_mixed) := goodIn_app (goodIn_of _ (by decide +kernel)) ggX2_hemMixed_X2_mixed
set_option maxRecDepth 20000 in
theorem ggX2_hemMixed_X2_repeat : GoodIn wsX2_hemMixed wsX2_repeat := goodIn_ca (goodIn_r _ [34, 6, 7, 1, 2, 3, 4, 5, 8, 9, 35, 36, 37, 27, 38, 29, 39, 40, 41, 42, 43, 25, 26, 28, 30, 44, 45, 46, 16, 47, 18, 48, 49, 50, 51, 52, 14, 15, 17, 19, 53, 24, 54, 55, 56, 57, 58, 59, 60, 61, 62, 63, 64, 65, 66, 96, 97, 100, 101, 102, 98, 99] (by decide +kernel) (by decide +kernel)) (goodIn_sub (fun _ h => List.mem_cons_of_mem _ (List.mem_append_right _ h)) (by decide +kernel))
set_option maxRecDepth 20000 in
theorem gX2_hemMixed_X2_repeat : GoodIn wsX2_hemMixed (wsV RX2 164 RX2 yX2_repeat wsX2_repeat) := goodIn_app (goodIn_of _ (by decide +kernel)) ggX2_hemMixed_X2_repeat
set_option maxRecDepth 20000 in
theorem ggX2_hemMixed_X2_period : GoodIn wsX2_hemMixed wsX2_period := goodIn_ca (goodIn_r _ [70, 1, 2, 3, 4, 5, 6, 7, 8, 9, 71, 72, 73, 16, 74, 18, 62, 45, 46, 47, 48, 49, 50, 51, 52, 14, 15, 17, 19, 96, 97, 100, 101, 102, 98, 99] (by decide +kernel) (by decide +kernel)) (goodIn_sub (fun _ h => List.mem_cons_of_mem _ (List.mem_append_right _ h)) (by decide +kernel))
set_option maxRecDepth 20000 in
theorem gX2_hemMixed_X2_period : GoodIn wsX2_hemMixed (wsV RX2 168 RX2 yX2_period wsX2_period) := goodIn_app (goodIn_of _ (by decide +kernel)) ggX2_hemMixed_X2_period
set_option maxRecDepth 20000 in
theorem ggX2_hemMixed_X2_turned : GoodIn wsX2_hemMixed wsX2_turned := goodIn_ca (goodIn_r _ [78, 1, 2, 3, 4, 5, 6, 7, 8, 9, 79, 80, 81, 16, 82, 18, 83, 84, 85, 86, 87, 88, 89, 90, 52, 14, 15, 17, 19, 96, 97, 100, 101, 102, 98, 99] (by decide +kernel) (by decide +kernel)) (goodIn_sub (fun _ h => List.mem_cons_of_mem _ (List.mem_append_right _ h)) (by decide +kernel))
set_option maxRecDepth 20000 in
theorem gX2_hemMixed_X2_turned : GoodIn wsX2_hemMixed (wsV RX2 171 RX2 yX2_turned wsX2_turned) := goodIn_app (goodIn_of _ (by decide +kernel)) ggX2_hemMixed_X2_turned
set_option maxRecDepth 20000 in
theorem ggX2_hemMixed_X2_found : GoodIn wsX2_hemMixed wsX2_found := goodIn_ca (goodIn_r _ [94, 95, 1, 2, 3, 4, 5, 6, 7, 8, 9, 63, 64, 65, 16, 66, 18, 58, 59, 60, 61, 62, 45, 46, 47, 48, 49, 50, 51, 52, 14, 15, 17, 19, 96, 97, 100, 101, 102, 98, 99] (by decide +kernel) (by decide +kernel)) (goodIn_sub (fun _ h => List.mem_cons_of_mem _ (List.mem_append_right _ h)) (by decide +kernel))
set_option maxRecDepth 20000 in
theorem gX2_hemMixed_X2_found : GoodIn wsX2_hemMixed (wsV RX2 174 RX2 yX2_found wsX2_found) := goodIn_app (goodIn_of _ (by decide +kernel)) ggX2_hemMixed_X2_found
theorem dX2_hemMixed_0 : decode cX2_hemMixed 0 = .ok (.aload_n 0, 1) := by decide +kernel
theorem dX2_hemMixed_1 : decode cX2_hemMixed 1 = .ok (.iload_n 3, 1) := by decide +kernel
theorem dX2_hemMixed_2 : decode cX2_hemMixed 2 = .ok (.invokevirtual 26, 3) := by decide +kernel
theorem dX2_hemMixed_5 : decode cX2_hemMixed 5 = .ok (.astore 4, 2) := by decide +kernel
theorem dX2_hemMixed_7 : decode cX2_hemMixed 7 = .ok (.lload_n 1, 1) := by decide +kernel
theorem dX2_hemMixed_8 : decode cX2_hemMixed 8 = .ok (.aload 4, 2) := by decide +kernel
theorem dX2_hemMixed_10 : decode cX2_hemMixed 10 = .ok (.getfield 34, 3) := by decide +kernel
theorem dX2_hemMixed_13 : decode cX2_hemMixed 13 = .ok (.invokestatic 157, 3) := by decide +kernel
theorem dX2_hemMixed_16 : decode cX2_hemMixed 16 = .ok (.lstore 5, 2) := by decide +kernel
theorem dX2_hemMixed_18 : decode cX2_hemMixed 18 = .ok (.iconst 0, 1) := by decide +kernel
theorem dX2_hemMixed_19 : decode cX2_hemMixed 19 = .ok (.istore 7, 2) := by decide +kernel
theorem dX2_hemMixed_21 : decode cX2_hemMixed 21 = .ok (.iload 7, 2) := by decide +kernel
theorem dX2_hemMixed_23 : decode cX2_hemMixed 23 = .ok (.aload 4, 2) := by decide +kernel
theorem dX2_hemMixed_25 : decode cX2_hemMixed 25 = .ok (.getfield 34, 3) := by decide +kernel
theorem dX2_hemMixed_28 : decode cX2_hemMixed 28 = .ok (.getfield 37, 3) := by decide +kernel
theorem dX2_hemMixed_31 : decode cX2_hemMixed 31 = .ok (.if_icmp .ge 23, 3) := by decide +kernel
theorem dX2_hemMixed_34 : decode cX2_hemMixed 34 = .ok (.lload 5, 2) := by decide +kernel
theorem dX2_hemMixed_36 : decode cX2_hemMixed 36 = .ok (.aload 4, 2) := by decide +kernel
theorem dX2_hemMixed_38 : decode cX2_hemMixed 38 = .ok (.iload 7, 2) := by decide +kernel
theorem dX2_hemMixed_40 : decode cX2_hemMixed 40 = .ok (.invokevirtual 97, 3) := by decide +kernel
theorem dX2_hemMixed_43 : decode cX2_hemMixed 43 = .ok (.invokestatic 150, 3) := by decide +kernel
theorem dX2_hemMixed_46 : decode cX2_hemMixed 46 = .ok (.lstore 5, 2) := by decide +kernel
theorem dX2_hemMixed_48 : decode cX2_hemMixed 48 = .ok (.iinc 7 1, 3) := by decide +kernel
theorem dX2_hemMixed_51 : decode cX2_hemMixed 51 = .ok (.goto (-30), 3) := by decide +kernel
theorem dX2_hemMixed_54 : decode cX2_hemMixed 54 = .ok (.iconst 0, 1) := by decide +kernel
theorem dX2_hemMixed_55 : decode cX2_hemMixed 55 = .ok (.istore 7, 2) := by decide +kernel
theorem dX2_hemMixed_57 : decode cX2_hemMixed 57 = .ok (.iload 7, 2) := by decide +kernel
theorem dX2_hemMixed_59 : decode cX2_hemMixed 59 = .ok (.iconst 3, 1) := by decide +kernel
theorem dX2_hemMixed_60 : decode cX2_hemMixed 60 = .ok (.if_icmp .ge 23, 3) := by decide +kernel
theorem dX2_hemMixed_63 : decode cX2_hemMixed 63 = .ok (.lload 5, 2) := by decide +kernel
theorem dX2_hemMixed_65 : decode cX2_hemMixed 65 = .ok (.aload_n 0, 1) := by decide +kernel
theorem dX2_hemMixed_66 : decode cX2_hemMixed 66 = .ok (.iload_n 3, 1) := by decide +kernel
theorem dX2_hemMixed_67 : decode cX2_hemMixed 67 = .ok (.iload 7, 2) := by decide +kernel
theorem dX2_hemMixed_69 : decode cX2_hemMixed 69 = .ok (.invokevirtual 164, 3) := by decide +kernel
theorem dX2_hemMixed_72 : decode cX2_hemMixed 72 = .ok (.invokestatic 150, 3) := by decide +kernel
theorem dX2_hemMixed_75 : decode cX2_hemMixed 75 = .ok (.lstore 5, 2) := by decide +kernel
theorem dX2_hemMixed_77 : decode cX2_hemMixed 77 = .ok (.iinc 7 1, 3) := by decide +kernel
theorem dX2_hemMixed_80 : decode cX2_hemMixed 80 = .ok (.goto (-23), 3) := by decide +kernel
theorem dX2_hemMixed_83 : decode cX2_hemMixed 83 = .ok (.lload 5, 2) := by decide +kernel
theorem dX2_hemMixed_85 : decode cX2_hemMixed 85 = .ok (.aload_n 0, 1) := by decide +kernel
theorem dX2_hemMixed_86 : decode cX2_hemMixed 86 = .ok (.iload_n 3, 1) := by decide +kernel
theorem dX2_hemMixed_87 : decode cX2_hemMixed 87 = .ok (.invokevirtual 168, 3) := by decide +kernel
theorem dX2_hemMixed_90 : decode cX2_hemMixed 90 = .ok (.invokestatic 150, 3) := by decide +kernel
theorem dX2_hemMixed_93 : decode cX2_hemMixed 93 = .ok (.lstore 5, 2) := by decide +kernel
theorem dX2_hemMixed_95 : decode cX2_hemMixed 95 = .ok (.lload 5, 2) := by decide +kernel
theorem dX2_hemMixed_97 : decode cX2_hemMixed 97 = .ok (.aload_n 0, 1) := by decide +kernel
theorem dX2_hemMixed_98 : decode cX2_hemMixed 98 = .ok (.iload_n 3, 1) := by decide +kernel
theorem dX2_hemMixed_99 : decode cX2_hemMixed 99 = .ok (.invokevirtual 171, 3) := by decide +kernel
theorem dX2_hemMixed_102 : decode cX2_hemMixed 102 = .ok (.invokestatic 150, 3) := by decide +kernel
theorem dX2_hemMixed_105 : decode cX2_hemMixed 105 = .ok (.lstore 5, 2) := by decide +kernel
theorem dX2_hemMixed_107 : decode cX2_hemMixed 107 = .ok (.lload 5, 2) := by decide +kernel
theorem dX2_hemMixed_109 : decode cX2_hemMixed 109 = .ok (.aload_n 0, 1) := by decide +kernel
theorem dX2_hemMixed_110 : decode cX2_hemMixed 110 = .ok (.iload_n 3, 1) := by decide +kernel
theorem dX2_hemMixed_111 : decode cX2_hemMixed 111 = .ok (.invokevirtual 174, 3) := by decide +kernel
theorem dX2_hemMixed_114 : decode cX2_hemMixed 114 = .ok (.invokestatic 150, 3) := by decide +kernel
theorem dX2_hemMixed_117 : decode cX2_hemMixed 117 = .ok (.lreturn, 1) := by decide +kernel
set_option maxRecDepth 20000 in
theorem ggX2_stitchesMixed_X1_at : GoodIn wsX2_stitchesMixed wsX1_at := goodIn_r _ [5, 6, 7, 13, 14] (by decide +kernel) (by decide +kernel)
set_option maxRecDepth 20000 in
theorem gX2_stitchesMixed_X1_at : GoodIn wsX2_stitchesMixed (wsV RX2 78 RX1 yX1_at wsX1_at) := goodIn_app (goodIn_of _ (by decide +kernel)) ggX2_stitchesMixed_X1_at
set_option maxRecDepth 20000 in
theorem ggX2_stitchesMixed_X2_mixed : GoodIn wsX2_stitchesMixed wsX2_mixed := goodIn_r _ [11, 12] (by decide +kernel) (by decide +kernel)
set_option maxRecDepth 20000 in
theorem gX2_stitchesMixed_X2_mixed : GoodIn wsX2_stitchesMixed (va_wsS RX2 150 yX2_mixed wsX2_mixed) := goodIn_app (goodIn_of _ (by decide +kernel)) ggX2_stitchesMixed_X2_mixed
theorem dX2_stitchesMixed_0 : decode cX2_stitchesMixed 0 = .ok (.lload_n 0, 1) := by decide +kernel
theorem dX2_stitchesMixed_1 : decode cX2_stitchesMixed 1 = .ok (.lstore_n 3, 1) := by decide +kernel
theorem dX2_stitchesMixed_2 : decode cX2_stitchesMixed 2 = .ok (.iconst 0, 1) := by decide +kernel
theorem dX2_stitchesMixed_3 : decode cX2_stitchesMixed 3 = .ok (.istore 5, 2) := by decide +kernel
theorem dX2_stitchesMixed_5 : decode cX2_stitchesMixed 5 = .ok (.iload 5, 2) := by decide +kernel
theorem dX2_stitchesMixed_7 : decode cX2_stitchesMixed 7 = .ok (.aload_n 2, 1) := by decide +kernel
theorem dX2_stitchesMixed_8 : decode cX2_stitchesMixed 8 = .ok (.getfield 37, 3) := by decide +kernel
theorem dX2_stitchesMixed_11 : decode cX2_stitchesMixed 11 = .ok (.if_icmp .ge 20, 3) := by decide +kernel
theorem dX2_stitchesMixed_14 : decode cX2_stitchesMixed 14 = .ok (.lload_n 3, 1) := by decide +kernel
theorem dX2_stitchesMixed_15 : decode cX2_stitchesMixed 15 = .ok (.aload_n 2, 1) := by decide +kernel
theorem dX2_stitchesMixed_16 : decode cX2_stitchesMixed 16 = .ok (.iload 5, 2) := by decide +kernel
theorem dX2_stitchesMixed_18 : decode cX2_stitchesMixed 18 = .ok (.invokevirtual 78, 3) := by decide +kernel
theorem dX2_stitchesMixed_21 : decode cX2_stitchesMixed 21 = .ok (.invokestatic 150, 3) := by decide +kernel
theorem dX2_stitchesMixed_24 : decode cX2_stitchesMixed 24 = .ok (.lstore_n 3, 1) := by decide +kernel
theorem dX2_stitchesMixed_25 : decode cX2_stitchesMixed 25 = .ok (.iinc 5 1, 3) := by decide +kernel
theorem dX2_stitchesMixed_28 : decode cX2_stitchesMixed 28 = .ok (.goto (-23), 3) := by decide +kernel
theorem dX2_stitchesMixed_31 : decode cX2_stitchesMixed 31 = .ok (.lload_n 3, 1) := by decide +kernel
theorem dX2_stitchesMixed_32 : decode cX2_stitchesMixed 32 = .ok (.lreturn, 1) := by decide +kernel
theorem dX2_mixed_0 : decode cX2_mixed 0 = .ok (.lload_n 0, 1) := by decide +kernel
theorem dX2_mixed_1 : decode cX2_mixed 1 = .ok (.ldc2_w 177, 3) := by decide +kernel
theorem dX2_mixed_4 : decode cX2_mixed 4 = .ok (.lmul, 1) := by decide +kernel
theorem dX2_mixed_5 : decode cX2_mixed 5 = .ok (.iload_n 2, 1) := by decide +kernel
theorem dX2_mixed_6 : decode cX2_mixed 6 = .ok (.i2l, 1) := by decide +kernel
theorem dX2_mixed_7 : decode cX2_mixed 7 = .ok (.ladd, 1) := by decide +kernel
theorem dX2_mixed_8 : decode cX2_mixed 8 = .ok (.lreturn, 1) := by decide +kernel
theorem dX2_hemOf_0 : decode cX2_hemOf 0 = .ok (.iload_n 1, 1) := by decide +kernel
theorem dX2_hemOf_1 : decode cX2_hemOf 1 = .ok (.ifCond .ne 8, 3) := by decide +kernel
theorem dX2_hemOf_4 : decode cX2_hemOf 4 = .ok (.aload_n 0, 1) := by decide +kernel
theorem dX2_hemOf_5 : decode cX2_hemOf 5 = .ok (.getfield 10, 3) := by decide +kernel
theorem dX2_hemOf_8 : decode cX2_hemOf 8 = .ok (.areturn, 1) := by decide +kernel
theorem dX2_hemOf_9 : decode cX2_hemOf 9 = .ok (.iload_n 1, 1) := by decide +kernel
theorem dX2_hemOf_10 : decode cX2_hemOf 10 = .ok (.iconst 1, 1) := by decide +kernel
theorem dX2_hemOf_11 : decode cX2_hemOf 11 = .ok (.if_icmp .ne 8, 3) := by decide +kernel
theorem dX2_hemOf_14 : decode cX2_hemOf 14 = .ok (.aload_n 0, 1) := by decide +kernel
theorem dX2_hemOf_15 : decode cX2_hemOf 15 = .ok (.getfield 16, 3) := by decide +kernel
theorem dX2_hemOf_18 : decode cX2_hemOf 18 = .ok (.areturn, 1) := by decide +kernel
theorem dX2_hemOf_19 : decode cX2_hemOf 19 = .ok (.new 92, 3) := by decide +kernel
theorem dX2_hemOf_22 : decode cX2_hemOf 22 = .ok (.dup, 1) := by decide +kernel
theorem dX2_hemOf_23 : decode cX2_hemOf 23 = .ok (.ldc 179, 2) := by decide +kernel
theorem dX2_hemOf_25 : decode cX2_hemOf 25 = .ok (.invokespecial 96, 3) := by decide +kernel
theorem dX2_hemOf_28 : decode cX2_hemOf 28 = .ok (.athrow, 1) := by decide +kernel
theorem dX2_requireStitch_0 : decode cX2_requireStitch 0 = .ok (.iload_n 0, 1) := by decide +kernel
theorem dX2_requireStitch_1 : decode cX2_requireStitch 1 = .ok (.ifCond .lt 9, 3) := by decide +kernel
theorem dX2_requireStitch_4 : decode cX2_requireStitch 4 = .ok (.iload_n 0, 1) := by decide +kernel
theorem dX2_requireStitch_5 : decode cX2_requireStitch 5 = .ok (.bipush 9, 2) := by decide +kernel
theorem dX2_requireStitch_7 : decode cX2_requireStitch 7 = .ok (.if_icmp .lt 13, 3) := by decide +kernel
theorem dX2_requireStitch_10 : decode cX2_requireStitch 10 = .ok (.new 51, 3) := by decide +kernel
theorem dX2_requireStitch_13 : decode cX2_requireStitch 13 = .ok (.dup, 1) := by decide +kernel
theorem dX2_requireStitch_14 : decode cX2_requireStitch 14 = .ok (.ldc 181, 2) := by decide +kernel
theorem dX2_requireStitch_16 : decode cX2_requireStitch 16 = .ok (.invokespecial 55, 3) := by decide +kernel
theorem dX2_requireStitch_19 : decode cX2_requireStitch 19 = .ok (.athrow, 1) := by decide +kernel
theorem dX2_requireStitch_20 : decode cX2_requireStitch 20 = .ok (.return_, 1) := by decide +kernel
theorem dX2_requirePlace_0 : decode cX2_requirePlace 0 = .ok (.iload_n 1, 1) := by decide +kernel
theorem dX2_requirePlace_1 : decode cX2_requirePlace 1 = .ok (.ifCond .lt 11, 3) := by decide +kernel
theorem dX2_requirePlace_4 : decode cX2_requirePlace 4 = .ok (.iload_n 1, 1) := by decide +kernel
theorem dX2_requirePlace_5 : decode cX2_requirePlace 5 = .ok (.aload_n 0, 1) := by decide +kernel
theorem dX2_requirePlace_6 : decode cX2_requirePlace 6 = .ok (.getfield 37, 3) := by decide +kernel
theorem dX2_requirePlace_9 : decode cX2_requirePlace 9 = .ok (.if_icmp .lt 13, 3) := by decide +kernel
theorem dX2_requirePlace_12 : decode cX2_requirePlace 12 = .ok (.new 92, 3) := by decide +kernel
theorem dX2_requirePlace_15 : decode cX2_requirePlace 15 = .ok (.dup, 1) := by decide +kernel
theorem dX2_requirePlace_16 : decode cX2_requirePlace 16 = .ok (.ldc 183, 2) := by decide +kernel
theorem dX2_requirePlace_18 : decode cX2_requirePlace 18 = .ok (.invokespecial 96, 3) := by decide +kernel
theorem dX2_requirePlace_21 : decode cX2_requirePlace 21 = .ok (.athrow, 1) := by decide +kernel
theorem dX2_requirePlace_22 : decode cX2_requirePlace 22 = .ok (.return_, 1) := by decide +kernel
set_option maxRecDepth 20000 in
theorem ggX2_seamPlace_X0_placeAt : GoodIn wsX2_seamPlace wsX0_placeAt := goodIn_r _ [6, 7, 8, 40, 41, 42, 43] (by decide +kernel) (by decide +kernel)
set_option maxRecDepth 20000 in
theorem gX2_seamPlace_X0_placeAt : GoodIn wsX2_seamPlace (wsV RX2 97 RX0 yX0_placeAt wsX0_placeAt) := goodIn_app (goodIn_of _ (by decide +kernel)) ggX2_seamPlace_X0_placeAt
set_option maxRecDepth 20000 in
theorem ggX2_seamPlace_X2_seamLengthFrom : GoodIn wsX2_seamPlace wsX2_seamLengthFrom := goodIn_r _ [13, 1, 14, 15, 16, 17, 18, 19, 20, 21, 22, 23, 24, 25, 26, 27, 28, 29, 30, 31, 32, 33, 34, 35, 36, 37, 38, 39, 40, 41, 42, 43] (by decide +kernel) (by decide +kernel)
set_option maxRecDepth 20000 in
theorem gX2_seamPlace_X2_seamLengthFrom : GoodIn wsX2_seamPlace (wsV RX2 89 RX2 yX2_seamLengthFrom wsX2_seamLengthFrom) := goodIn_app (goodIn_of _ (by decide +kernel)) ggX2_seamPlace_X2_seamLengthFrom
theorem dX2_seamPlace_0 : decode cX2_seamPlace 0 = .ok (.iconst (-1), 1) := by decide +kernel
theorem dX2_seamPlace_1 : decode cX2_seamPlace 1 = .ok (.istore_n 1, 1) := by decide +kernel
theorem dX2_seamPlace_2 : decode cX2_seamPlace 2 = .ok (.iconst 0, 1) := by decide +kernel
theorem dX2_seamPlace_3 : decode cX2_seamPlace 3 = .ok (.istore_n 2, 1) := by decide +kernel
theorem dX2_seamPlace_4 : decode cX2_seamPlace 4 = .ok (.iconst 0, 1) := by decide +kernel
theorem dX2_seamPlace_5 : decode cX2_seamPlace 5 = .ok (.istore_n 3, 1) := by decide +kernel
theorem dX2_seamPlace_6 : decode cX2_seamPlace 6 = .ok (.iload_n 3, 1) := by decide +kernel
theorem dX2_seamPlace_7 : decode cX2_seamPlace 7 = .ok (.aload_n 0, 1) := by decide +kernel
theorem dX2_seamPlace_8 : decode cX2_seamPlace 8 = .ok (.getfield 10, 3) := by decide +kernel
theorem dX2_seamPlace_11 : decode cX2_seamPlace 11 = .ok (.getfield 34, 3) := by decide +kernel
theorem dX2_seamPlace_14 : decode cX2_seamPlace 14 = .ok (.getfield 37, 3) := by decide +kernel
theorem dX2_seamPlace_17 : decode cX2_seamPlace 17 = .ok (.if_icmp .ge 39, 3) := by decide +kernel
theorem dX2_seamPlace_20 : decode cX2_seamPlace 20 = .ok (.aload_n 0, 1) := by decide +kernel
theorem dX2_seamPlace_21 : decode cX2_seamPlace 21 = .ok (.getfield 10, 3) := by decide +kernel
theorem dX2_seamPlace_24 : decode cX2_seamPlace 24 = .ok (.iload_n 3, 1) := by decide +kernel
theorem dX2_seamPlace_25 : decode cX2_seamPlace 25 = .ok (.invokevirtual 97, 3) := by decide +kernel
theorem dX2_seamPlace_28 : decode cX2_seamPlace 28 = .ok (.istore 4, 2) := by decide +kernel
theorem dX2_seamPlace_30 : decode cX2_seamPlace 30 = .ok (.aload_n 0, 1) := by decide +kernel
theorem dX2_seamPlace_31 : decode cX2_seamPlace 31 = .ok (.iload 4, 2) := by decide +kernel
theorem dX2_seamPlace_33 : decode cX2_seamPlace 33 = .ok (.invokevirtual 89, 3) := by decide +kernel
theorem dX2_seamPlace_36 : decode cX2_seamPlace 36 = .ok (.istore 5, 2) := by decide +kernel
theorem dX2_seamPlace_38 : decode cX2_seamPlace 38 = .ok (.iload 5, 2) := by decide +kernel
theorem dX2_seamPlace_40 : decode cX2_seamPlace 40 = .ok (.iload_n 2, 1) := by decide +kernel
theorem dX2_seamPlace_41 : decode cX2_seamPlace 41 = .ok (.if_icmp .le 9, 3) := by decide +kernel
theorem dX2_seamPlace_44 : decode cX2_seamPlace 44 = .ok (.iload 4, 2) := by decide +kernel
theorem dX2_seamPlace_46 : decode cX2_seamPlace 46 = .ok (.istore_n 1, 1) := by decide +kernel
theorem dX2_seamPlace_47 : decode cX2_seamPlace 47 = .ok (.iload 5, 2) := by decide +kernel
theorem dX2_seamPlace_49 : decode cX2_seamPlace 49 = .ok (.istore_n 2, 1) := by decide +kernel
theorem dX2_seamPlace_50 : decode cX2_seamPlace 50 = .ok (.iinc 3 1, 3) := by decide +kernel
theorem dX2_seamPlace_53 : decode cX2_seamPlace 53 = .ok (.goto (-47), 3) := by decide +kernel
theorem dX2_seamPlace_56 : decode cX2_seamPlace 56 = .ok (.iload_n 1, 1) := by decide +kernel
theorem dX2_seamPlace_57 : decode cX2_seamPlace 57 = .ok (.ireturn, 1) := by decide +kernel
set_option maxRecDepth 20000 in
theorem ggX2_seamLengthFrom_X1_mostSharedWith : GoodIn wsX2_seamLengthFrom wsX1_mostSharedWith := goodIn_r _ [7, 8, 9, 10, 11, 12, 13, 14, 15, 6, 16, 17, 18, 19, 20, 21, 22, 23, 24, 30, 31] (by decide +kernel) (by decide +kernel)
set_option maxRecDepth 20000 in
theorem gX2_seamLengthFrom_X1_mostSharedWith : GoodIn wsX2_seamLengthFrom (wsV RX2 185 RX1 yX1_mostSharedWith wsX1_mostSharedWith) := goodIn_app (goodIn_of _ (by decide +kernel)) ggX2_seamLengthFrom_X1_mostSharedWith
theorem dX2_seamLengthFrom_0 : decode cX2_seamLengthFrom 0 = .ok (.aload_n 0, 1) := by decide +kernel
theorem dX2_seamLengthFrom_1 : decode cX2_seamLengthFrom 1 = .ok (.getfield 10, 3) := by decide +kernel
theorem dX2_seamLengthFrom_4 : decode cX2_seamLengthFrom 4 = .ok (.getfield 34, 3) := by decide +kernel
theorem dX2_seamLengthFrom_7 : decode cX2_seamLengthFrom 7 = .ok (.iload_n 1, 1) := by decide +kernel
theorem dX2_seamLengthFrom_8 : decode cX2_seamLengthFrom 8 = .ok (.aload_n 0, 1) := by decide +kernel
theorem dX2_seamLengthFrom_9 : decode cX2_seamLengthFrom 9 = .ok (.getfield 16, 3) := by decide +kernel
theorem dX2_seamLengthFrom_12 : decode cX2_seamLengthFrom 12 = .ok (.getfield 34, 3) := by decide +kernel
theorem dX2_seamLengthFrom_15 : decode cX2_seamLengthFrom 15 = .ok (.invokevirtual 185, 3) := by decide +kernel
theorem dX2_seamLengthFrom_18 : decode cX2_seamLengthFrom 18 = .ok (.ireturn, 1) := by decide +kernel
theorem dJ9_abs_0f7a4_0 : decode cJ9_abs_0f7a4 0 = .ok (.iload_n 0, 1) := by decide +kernel
theorem dJ9_abs_0f7a4_1 : decode cJ9_abs_0f7a4 1 = .ok (.ifCond .ge 8, 3) := by decide +kernel
theorem dJ9_abs_0f7a4_4 : decode cJ9_abs_0f7a4 4 = .ok (.iload_n 0, 1) := by decide +kernel
theorem dJ9_abs_0f7a4_5 : decode cJ9_abs_0f7a4 5 = .ok (.ineg, 1) := by decide +kernel
theorem dJ9_abs_0f7a4_6 : decode cJ9_abs_0f7a4 6 = .ok (.goto 4, 3) := by decide +kernel
theorem dJ9_abs_0f7a4_9 : decode cJ9_abs_0f7a4 9 = .ok (.iload_n 0, 1) := by decide +kernel
theorem dJ9_abs_0f7a4_10 : decode cJ9_abs_0f7a4 10 = .ok (.ireturn, 1) := by decide +kernel
theorem dJ9_max_7cf53_0 : decode cJ9_max_7cf53 0 = .ok (.iload_n 0, 1) := by decide +kernel
theorem dJ9_max_7cf53_1 : decode cJ9_max_7cf53 1 = .ok (.iload_n 1, 1) := by decide +kernel
theorem dJ9_max_7cf53_2 : decode cJ9_max_7cf53 2 = .ok (.if_icmp .lt 7, 3) := by decide +kernel
theorem dJ9_max_7cf53_5 : decode cJ9_max_7cf53 5 = .ok (.iload_n 0, 1) := by decide +kernel
theorem dJ9_max_7cf53_6 : decode cJ9_max_7cf53 6 = .ok (.goto 4, 3) := by decide +kernel
theorem dJ9_max_7cf53_9 : decode cJ9_max_7cf53 9 = .ok (.iload_n 1, 1) := by decide +kernel
theorem dJ9_max_7cf53_10 : decode cJ9_max_7cf53 10 = .ok (.ireturn, 1) := by decide +kernel
theorem dJ9_min_7cf53_0 : decode cJ9_min_7cf53 0 = .ok (.iload_n 0, 1) := by decide +kernel
theorem dJ9_min_7cf53_1 : decode cJ9_min_7cf53 1 = .ok (.iload_n 1, 1) := by decide +kernel
theorem dJ9_min_7cf53_2 : decode cJ9_min_7cf53 2 = .ok (.if_icmp .gt 7, 3) := by decide +kernel
theorem dJ9_min_7cf53_5 : decode cJ9_min_7cf53 5 = .ok (.iload_n 0, 1) := by decide +kernel
theorem dJ9_min_7cf53_6 : decode cJ9_min_7cf53 6 = .ok (.goto 4, 3) := by decide +kernel
theorem dJ9_min_7cf53_9 : decode cJ9_min_7cf53 9 = .ok (.iload_n 1, 1) := by decide +kernel
theorem dJ9_min_7cf53_10 : decode cJ9_min_7cf53 10 = .ok (.ireturn, 1) := by decide +kernel
