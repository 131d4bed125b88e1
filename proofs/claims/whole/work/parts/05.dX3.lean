theorem dX3_init_0 : decode cX3_init 0 = .ok (.aload_n 0, 1) := by decide +kernel
theorem dX3_init_1 : decode cX3_init 1 = .ok (.invokespecial 1, 3) := by decide +kernel
theorem dX3_init_4 : decode cX3_init 4 = .ok (.aload_n 0, 1) := by decide +kernel
theorem dX3_init_5 : decode cX3_init 5 = .ok (.iconst 2, 1) := by decide +kernel
theorem dX3_init_6 : decode cX3_init 6 = .ok (.bipush 40, 2) := by decide +kernel
theorem dX3_init_8 : decode cX3_init 8 = .ok (.multianewarray 9 2, 4) := by decide +kernel
theorem dX3_init_12 : decode cX3_init 12 = .ok (.putfield 11, 3) := by decide +kernel
theorem dX3_init_15 : decode cX3_init 15 = .ok (.aload_n 0, 1) := by decide +kernel
theorem dX3_init_16 : decode cX3_init 16 = .ok (.iconst 2, 1) := by decide +kernel
theorem dX3_init_17 : decode cX3_init 17 = .ok (.newarray .int, 2) := by decide +kernel
theorem dX3_init_19 : decode cX3_init 19 = .ok (.putfield 14, 3) := by decide +kernel
theorem dX3_init_22 : decode cX3_init 22 = .ok (.aload_n 0, 1) := by decide +kernel
theorem dX3_init_23 : decode cX3_init 23 = .ok (.bipush 12, 2) := by decide +kernel
theorem dX3_init_25 : decode cX3_init 25 = .ok (.newarray .int, 2) := by decide +kernel
theorem dX3_init_27 : decode cX3_init 27 = .ok (.putfield 18, 3) := by decide +kernel
theorem dX3_init_30 : decode cX3_init 30 = .ok (.aload_n 0, 1) := by decide +kernel
theorem dX3_init_31 : decode cX3_init 31 = .ok (.bipush 41, 2) := by decide +kernel
theorem dX3_init_33 : decode cX3_init 33 = .ok (.bipush 41, 2) := by decide +kernel
theorem dX3_init_35 : decode cX3_init 35 = .ok (.multianewarray 9 2, 4) := by decide +kernel
theorem dX3_init_39 : decode cX3_init 39 = .ok (.putfield 21, 3) := by decide +kernel
theorem dX3_init_42 : decode cX3_init 42 = .ok (.aload_n 0, 1) := by decide +kernel
theorem dX3_init_43 : decode cX3_init 43 = .ok (.bipush 40, 2) := by decide +kernel
theorem dX3_init_45 : decode cX3_init 45 = .ok (.newarray .int, 2) := by decide +kernel
theorem dX3_init_47 : decode cX3_init 47 = .ok (.putfield 24, 3) := by decide +kernel
theorem dX3_init_50 : decode cX3_init 50 = .ok (.aload_n 0, 1) := by decide +kernel
theorem dX3_init_51 : decode cX3_init 51 = .ok (.bipush 41, 2) := by decide +kernel
theorem dX3_init_53 : decode cX3_init 53 = .ok (.bipush 41, 2) := by decide +kernel
theorem dX3_init_55 : decode cX3_init 55 = .ok (.multianewarray 9 2, 4) := by decide +kernel
theorem dX3_init_59 : decode cX3_init 59 = .ok (.putfield 27, 3) := by decide +kernel
theorem dX3_init_62 : decode cX3_init 62 = .ok (.return_, 1) := by decide +kernel
theorem dX3_thrown_0 : decode cX3_thrown 0 = .ok (.aload_n 0, 1) := by decide +kernel
theorem dX3_thrown_1 : decode cX3_thrown 1 = .ok (.getfield 30, 3) := by decide +kernel
theorem dX3_thrown_4 : decode cX3_thrown 4 = .ok (.ireturn, 1) := by decide +kernel
theorem dX3_no_0 : decode cX3_no 0 = .ok (.aload_n 0, 1) := by decide +kernel
theorem dX3_no_1 : decode cX3_no 1 = .ok (.iload_n 1, 1) := by decide +kernel
theorem dX3_no_2 : decode cX3_no 2 = .ok (.putfield 30, 3) := by decide +kernel
theorem dX3_no_5 : decode cX3_no 5 = .ok (.iconst 0, 1) := by decide +kernel
theorem dX3_no_6 : decode cX3_no 6 = .ok (.ireturn, 1) := by decide +kernel
theorem dX3_isIn_0 : decode cX3_isIn 0 = .ok (.iload_n 0, 1) := by decide +kernel
theorem dX3_isIn_1 : decode cX3_isIn 1 = .ok (.iload_n 1, 1) := by decide +kernel
theorem dX3_isIn_2 : decode cX3_isIn 2 = .ok (.if_icmp .lt 12, 3) := by decide +kernel
theorem dX3_isIn_5 : decode cX3_isIn 5 = .ok (.iload_n 0, 1) := by decide +kernel
theorem dX3_isIn_6 : decode cX3_isIn 6 = .ok (.iload_n 2, 1) := by decide +kernel
theorem dX3_isIn_7 : decode cX3_isIn 7 = .ok (.if_icmp .gt 7, 3) := by decide +kernel
theorem dX3_isIn_10 : decode cX3_isIn 10 = .ok (.iconst 1, 1) := by decide +kernel
theorem dX3_isIn_11 : decode cX3_isIn 11 = .ok (.goto 4, 3) := by decide +kernel
theorem dX3_isIn_14 : decode cX3_isIn 14 = .ok (.iconst 0, 1) := by decide +kernel
theorem dX3_isIn_15 : decode cX3_isIn 15 = .ok (.ireturn, 1) := by decide +kernel
set_option maxRecDepth 20000 in
theorem ggX3_isHem_X3_isIn : GoodIn wsX3_isHem wsX3_isIn := goodIn_r _ [4] (by decide +kernel) (by decide +kernel)
set_option maxRecDepth 20000 in
theorem gX3_isHem_X3_isIn : GoodIn wsX3_isHem (va_wsS RX3 34 yX3_isIn wsX3_isIn) := goodIn_app (goodIn_of _ (by decide +kernel)) ggX3_isHem_X3_isIn
theorem dX3_isHem_0 : decode cX3_isHem 0 = .ok (.iload_n 0, 1) := by decide +kernel
theorem dX3_isHem_1 : decode cX3_isHem 1 = .ok (.iconst 0, 1) := by decide +kernel
theorem dX3_isHem_2 : decode cX3_isHem 2 = .ok (.iconst 1, 1) := by decide +kernel
theorem dX3_isHem_3 : decode cX3_isHem 3 = .ok (.invokestatic 34, 3) := by decide +kernel
theorem dX3_isHem_6 : decode cX3_isHem 6 = .ok (.ireturn, 1) := by decide +kernel
set_option maxRecDepth 20000 in
theorem ggX3_isStitch_X3_isIn : GoodIn wsX3_isStitch wsX3_isIn := goodIn_r _ [4] (by decide +kernel) (by decide +kernel)
set_option maxRecDepth 20000 in
theorem gX3_isStitch_X3_isIn : GoodIn wsX3_isStitch (va_wsS RX3 34 yX3_isIn wsX3_isIn) := goodIn_app (goodIn_of _ (by decide +kernel)) ggX3_isStitch_X3_isIn
theorem dX3_isStitch_0 : decode cX3_isStitch 0 = .ok (.iload_n 0, 1) := by decide +kernel
theorem dX3_isStitch_1 : decode cX3_isStitch 1 = .ok (.iconst 0, 1) := by decide +kernel
theorem dX3_isStitch_2 : decode cX3_isStitch 2 = .ok (.bipush 8, 2) := by decide +kernel
theorem dX3_isStitch_4 : decode cX3_isStitch 4 = .ok (.invokestatic 34, 3) := by decide +kernel
theorem dX3_isStitch_7 : decode cX3_isStitch 7 = .ok (.ireturn, 1) := by decide +kernel
set_option maxRecDepth 20000 in
theorem ggX3_isPlace_X3_isHem : GoodIn wsX3_isPlace wsX3_isHem := goodIn_r _ [5, 6, 7, 4, 8] (by decide +kernel) (by decide +kernel)
set_option maxRecDepth 20000 in
theorem gX3_isPlace_X3_isHem : GoodIn wsX3_isPlace (va_wsS RX3 38 yX3_isHem wsX3_isHem) := goodIn_app (goodIn_of _ (by decide +kernel)) ggX3_isPlace_X3_isHem
set_option maxRecDepth 20000 in
theorem ggX3_isPlace_X3_isIn : GoodIn wsX3_isPlace wsX3_isIn := goodIn_r _ [8] (by decide +kernel) (by decide +kernel)
set_option maxRecDepth 20000 in
theorem gX3_isPlace_X3_isIn : GoodIn wsX3_isPlace (va_wsS RX3 34 yX3_isIn wsX3_isIn) := goodIn_app (goodIn_of _ (by decide +kernel)) ggX3_isPlace_X3_isIn
theorem dX3_isPlace_0 : decode cX3_isPlace 0 = .ok (.iload_n 1, 1) := by decide +kernel
theorem dX3_isPlace_1 : decode cX3_isPlace 1 = .ok (.invokestatic 38, 3) := by decide +kernel
theorem dX3_isPlace_4 : decode cX3_isPlace 4 = .ok (.ifCond .eq 23, 3) := by decide +kernel
theorem dX3_isPlace_7 : decode cX3_isPlace 7 = .ok (.iload_n 2, 1) := by decide +kernel
theorem dX3_isPlace_8 : decode cX3_isPlace 8 = .ok (.iconst 0, 1) := by decide +kernel
theorem dX3_isPlace_9 : decode cX3_isPlace 9 = .ok (.aload_n 0, 1) := by decide +kernel
theorem dX3_isPlace_10 : decode cX3_isPlace 10 = .ok (.getfield 14, 3) := by decide +kernel
theorem dX3_isPlace_13 : decode cX3_isPlace 13 = .ok (.iload_n 1, 1) := by decide +kernel
theorem dX3_isPlace_14 : decode cX3_isPlace 14 = .ok (.iaload, 1) := by decide +kernel
theorem dX3_isPlace_15 : decode cX3_isPlace 15 = .ok (.iconst 1, 1) := by decide +kernel
theorem dX3_isPlace_16 : decode cX3_isPlace 16 = .ok (.isub, 1) := by decide +kernel
theorem dX3_isPlace_17 : decode cX3_isPlace 17 = .ok (.invokestatic 34, 3) := by decide +kernel
theorem dX3_isPlace_20 : decode cX3_isPlace 20 = .ok (.ifCond .eq 7, 3) := by decide +kernel
theorem dX3_isPlace_23 : decode cX3_isPlace 23 = .ok (.iconst 1, 1) := by decide +kernel
theorem dX3_isPlace_24 : decode cX3_isPlace 24 = .ok (.goto 4, 3) := by decide +kernel
theorem dX3_isPlace_27 : decode cX3_isPlace 27 = .ok (.iconst 0, 1) := by decide +kernel
theorem dX3_isPlace_28 : decode cX3_isPlace 28 = .ok (.ireturn, 1) := by decide +kernel
theorem dX3_compare_0 : decode cX3_compare 0 = .ok (.iload_n 1, 1) := by decide +kernel
theorem dX3_compare_1 : decode cX3_compare 1 = .ok (.istore 5, 2) := by decide +kernel
theorem dX3_compare_3 : decode cX3_compare 3 = .ok (.iload 5, 2) := by decide +kernel
theorem dX3_compare_5 : decode cX3_compare 5 = .ok (.ifCond .lt 72, 3) := by decide +kernel
theorem dX3_compare_8 : decode cX3_compare 8 = .ok (.iload_n 3, 1) := by decide +kernel
theorem dX3_compare_9 : decode cX3_compare 9 = .ok (.istore 6, 2) := by decide +kernel
theorem dX3_compare_11 : decode cX3_compare 11 = .ok (.iload 6, 2) := by decide +kernel
theorem dX3_compare_13 : decode cX3_compare 13 = .ok (.ifCond .lt 58, 3) := by decide +kernel
theorem dX3_compare_16 : decode cX3_compare 16 = .ok (.aload 4, 2) := by decide +kernel
theorem dX3_compare_18 : decode cX3_compare 18 = .ok (.iload 5, 2) := by decide +kernel
theorem dX3_compare_20 : decode cX3_compare 20 = .ok (.aaload, 1) := by decide +kernel
theorem dX3_compare_21 : decode cX3_compare 21 = .ok (.iload 6, 2) := by decide +kernel
theorem dX3_compare_23 : decode cX3_compare 23 = .ok (.iload 5, 2) := by decide +kernel
theorem dX3_compare_25 : decode cX3_compare 25 = .ok (.iload_n 1, 1) := by decide +kernel
theorem dX3_compare_26 : decode cX3_compare 26 = .ok (.if_icmp .ge 37, 3) := by decide +kernel
theorem dX3_compare_29 : decode cX3_compare 29 = .ok (.iload 6, 2) := by decide +kernel
theorem dX3_compare_31 : decode cX3_compare 31 = .ok (.iload_n 3, 1) := by decide +kernel
theorem dX3_compare_32 : decode cX3_compare 32 = .ok (.if_icmp .ge 31, 3) := by decide +kernel
theorem dX3_compare_35 : decode cX3_compare 35 = .ok (.aload_n 0, 1) := by decide +kernel
theorem dX3_compare_36 : decode cX3_compare 36 = .ok (.iload 5, 2) := by decide +kernel
theorem dX3_compare_38 : decode cX3_compare 38 = .ok (.iaload, 1) := by decide +kernel
theorem dX3_compare_39 : decode cX3_compare 39 = .ok (.aload_n 2, 1) := by decide +kernel
theorem dX3_compare_40 : decode cX3_compare 40 = .ok (.iload 6, 2) := by decide +kernel
theorem dX3_compare_42 : decode cX3_compare 42 = .ok (.iaload, 1) := by decide +kernel
theorem dX3_compare_43 : decode cX3_compare 43 = .ok (.if_icmp .ne 20, 3) := by decide +kernel
theorem dX3_compare_46 : decode cX3_compare 46 = .ok (.aload 4, 2) := by decide +kernel
theorem dX3_compare_48 : decode cX3_compare 48 = .ok (.iload 5, 2) := by decide +kernel
theorem dX3_compare_50 : decode cX3_compare 50 = .ok (.iconst 1, 1) := by decide +kernel
theorem dX3_compare_51 : decode cX3_compare 51 = .ok (.iadd, 1) := by decide +kernel
theorem dX3_compare_52 : decode cX3_compare 52 = .ok (.aaload, 1) := by decide +kernel
theorem dX3_compare_53 : decode cX3_compare 53 = .ok (.iload 6, 2) := by decide +kernel
theorem dX3_compare_55 : decode cX3_compare 55 = .ok (.iconst 1, 1) := by decide +kernel
theorem dX3_compare_56 : decode cX3_compare 56 = .ok (.iadd, 1) := by decide +kernel
theorem dX3_compare_57 : decode cX3_compare 57 = .ok (.iaload, 1) := by decide +kernel
theorem dX3_compare_58 : decode cX3_compare 58 = .ok (.iconst 1, 1) := by decide +kernel
theorem dX3_compare_59 : decode cX3_compare 59 = .ok (.iadd, 1) := by decide +kernel
theorem dX3_compare_60 : decode cX3_compare 60 = .ok (.goto 4, 3) := by decide +kernel
theorem dX3_compare_63 : decode cX3_compare 63 = .ok (.iconst 0, 1) := by decide +kernel
theorem dX3_compare_64 : decode cX3_compare 64 = .ok (.iastore, 1) := by decide +kernel
theorem dX3_compare_65 : decode cX3_compare 65 = .ok (.iinc 6 (-1), 3) := by decide +kernel
theorem dX3_compare_68 : decode cX3_compare 68 = .ok (.goto (-57), 3) := by decide +kernel
theorem dX3_compare_71 : decode cX3_compare 71 = .ok (.iinc 5 (-1), 3) := by decide +kernel
theorem dX3_compare_74 : decode cX3_compare 74 = .ok (.goto (-71), 3) := by decide +kernel
theorem dX3_compare_77 : decode cX3_compare 77 = .ok (.return_, 1) := by decide +kernel
theorem dX3_by_0 : decode cX3_by 0 = .ok (.iload_n 2, 1) := by decide +kernel
theorem dX3_by_1 : decode cX3_by 1 = .ok (.iload 6, 2) := by decide +kernel
theorem dX3_by_3 : decode cX3_by 3 = .ok (.iadd, 1) := by decide +kernel
theorem dX3_by_4 : decode cX3_by 4 = .ok (.iload_n 1, 1) := by decide +kernel
theorem dX3_by_5 : decode cX3_by 5 = .ok (.if_icmp .ne 7, 3) := by decide +kernel
theorem dX3_by_8 : decode cX3_by 8 = .ok (.iconst 1, 1) := by decide +kernel
theorem dX3_by_9 : decode cX3_by 9 = .ok (.goto 4, 3) := by decide +kernel
theorem dX3_by_12 : decode cX3_by 12 = .ok (.iconst 0, 1) := by decide +kernel
theorem dX3_by_13 : decode cX3_by 13 = .ok (.istore 7, 2) := by decide +kernel
theorem dX3_by_15 : decode cX3_by 15 = .ok (.iload 7, 2) := by decide +kernel
theorem dX3_by_17 : decode cX3_by 17 = .ok (.ifCond .ne 13, 3) := by decide +kernel
theorem dX3_by_20 : decode cX3_by 20 = .ok (.iload 5, 2) := by decide +kernel
theorem dX3_by_22 : decode cX3_by 22 = .ok (.iload 6, 2) := by decide +kernel
theorem dX3_by_24 : decode cX3_by 24 = .ok (.iadd, 1) := by decide +kernel
theorem dX3_by_25 : decode cX3_by 25 = .ok (.iload 4, 2) := by decide +kernel
theorem dX3_by_27 : decode cX3_by 27 = .ok (.if_icmp .ne 28, 3) := by decide +kernel
theorem dX3_by_30 : decode cX3_by 30 = .ok (.iload 7, 2) := by decide +kernel
theorem dX3_by_32 : decode cX3_by 32 = .ok (.ifCond .eq 21, 3) := by decide +kernel
theorem dX3_by_35 : decode cX3_by 35 = .ok (.iload 5, 2) := by decide +kernel
theorem dX3_by_37 : decode cX3_by 37 = .ok (.iload 6, 2) := by decide +kernel
theorem dX3_by_39 : decode cX3_by 39 = .ok (.iadd, 1) := by decide +kernel
theorem dX3_by_40 : decode cX3_by 40 = .ok (.iload 4, 2) := by decide +kernel
theorem dX3_by_42 : decode cX3_by 42 = .ok (.if_icmp .ne 7, 3) := by decide +kernel
theorem dX3_by_45 : decode cX3_by 45 = .ok (.iconst 0, 1) := by decide +kernel
theorem dX3_by_46 : decode cX3_by 46 = .ok (.goto 8, 3) := by decide +kernel
theorem dX3_by_49 : decode cX3_by 49 = .ok (.iconst (-1), 1) := by decide +kernel
theorem dX3_by_50 : decode cX3_by 50 = .ok (.goto 4, 3) := by decide +kernel
theorem dX3_by_53 : decode cX3_by 53 = .ok (.iconst 1, 1) := by decide +kernel
theorem dX3_by_54 : decode cX3_by 54 = .ok (.ireturn, 1) := by decide +kernel
theorem dX3_by_55 : decode cX3_by 55 = .ok (.aload_n 0, 1) := by decide +kernel
theorem dX3_by_56 : decode cX3_by 56 = .ok (.iload_n 2, 1) := by decide +kernel
theorem dX3_by_57 : decode cX3_by 57 = .ok (.iload 6, 2) := by decide +kernel
theorem dX3_by_59 : decode cX3_by 59 = .ok (.iadd, 1) := by decide +kernel
theorem dX3_by_60 : decode cX3_by 60 = .ok (.iaload, 1) := by decide +kernel
theorem dX3_by_61 : decode cX3_by 61 = .ok (.aload_n 3, 1) := by decide +kernel
theorem dX3_by_62 : decode cX3_by 62 = .ok (.iload 5, 2) := by decide +kernel
theorem dX3_by_64 : decode cX3_by 64 = .ok (.iload 6, 2) := by decide +kernel
theorem dX3_by_66 : decode cX3_by 66 = .ok (.iadd, 1) := by decide +kernel
theorem dX3_by_67 : decode cX3_by 67 = .ok (.iaload, 1) := by decide +kernel
theorem dX3_by_68 : decode cX3_by 68 = .ok (.if_icmp .ge 7, 3) := by decide +kernel
theorem dX3_by_71 : decode cX3_by 71 = .ok (.iconst (-1), 1) := by decide +kernel
theorem dX3_by_72 : decode cX3_by 72 = .ok (.goto 4, 3) := by decide +kernel
theorem dX3_by_75 : decode cX3_by 75 = .ok (.iconst 1, 1) := by decide +kernel
theorem dX3_by_76 : decode cX3_by 76 = .ok (.ireturn, 1) := by decide +kernel
set_option maxRecDepth 20000 in
theorem ggX3_isLess_X3_by : GoodIn wsX3_isLess wsX3_by := goodIn_r _ [7] (by decide +kernel) (by decide +kernel)
set_option maxRecDepth 20000 in
theorem gX3_isLess_X3_by : GoodIn wsX3_isLess (va_wsS RX3 42 yX3_by wsX3_by) := goodIn_app (goodIn_of _ (by decide +kernel)) ggX3_isLess_X3_by
theorem dX3_isLess_0 : decode cX3_isLess 0 = .ok (.aload_n 0, 1) := by decide +kernel
theorem dX3_isLess_1 : decode cX3_isLess 1 = .ok (.getfield 11, 3) := by decide +kernel
theorem dX3_isLess_4 : decode cX3_isLess 4 = .ok (.iload_n 1, 1) := by decide +kernel
theorem dX3_isLess_5 : decode cX3_isLess 5 = .ok (.aaload, 1) := by decide +kernel
theorem dX3_isLess_6 : decode cX3_isLess 6 = .ok (.aload_n 0, 1) := by decide +kernel
theorem dX3_isLess_7 : decode cX3_isLess 7 = .ok (.getfield 14, 3) := by decide +kernel
theorem dX3_isLess_10 : decode cX3_isLess 10 = .ok (.iload_n 1, 1) := by decide +kernel
theorem dX3_isLess_11 : decode cX3_isLess 11 = .ok (.iaload, 1) := by decide +kernel
theorem dX3_isLess_12 : decode cX3_isLess 12 = .ok (.iload_n 2, 1) := by decide +kernel
theorem dX3_isLess_13 : decode cX3_isLess 13 = .ok (.aload_n 0, 1) := by decide +kernel
theorem dX3_isLess_14 : decode cX3_isLess 14 = .ok (.getfield 11, 3) := by decide +kernel
theorem dX3_isLess_17 : decode cX3_isLess 17 = .ok (.iload_n 1, 1) := by decide +kernel
theorem dX3_isLess_18 : decode cX3_isLess 18 = .ok (.aaload, 1) := by decide +kernel
theorem dX3_isLess_19 : decode cX3_isLess 19 = .ok (.aload_n 0, 1) := by decide +kernel
theorem dX3_isLess_20 : decode cX3_isLess 20 = .ok (.getfield 14, 3) := by decide +kernel
theorem dX3_isLess_23 : decode cX3_isLess 23 = .ok (.iload_n 1, 1) := by decide +kernel
theorem dX3_isLess_24 : decode cX3_isLess 24 = .ok (.iaload, 1) := by decide +kernel
theorem dX3_isLess_25 : decode cX3_isLess 25 = .ok (.iload_n 3, 1) := by decide +kernel
theorem dX3_isLess_26 : decode cX3_isLess 26 = .ok (.aload_n 0, 1) := by decide +kernel
theorem dX3_isLess_27 : decode cX3_isLess 27 = .ok (.getfield 21, 3) := by decide +kernel
theorem dX3_isLess_30 : decode cX3_isLess 30 = .ok (.iload_n 2, 1) := by decide +kernel
theorem dX3_isLess_31 : decode cX3_isLess 31 = .ok (.aaload, 1) := by decide +kernel
theorem dX3_isLess_32 : decode cX3_isLess 32 = .ok (.iload_n 3, 1) := by decide +kernel
theorem dX3_isLess_33 : decode cX3_isLess 33 = .ok (.iaload, 1) := by decide +kernel
theorem dX3_isLess_34 : decode cX3_isLess 34 = .ok (.invokestatic 42, 3) := by decide +kernel
theorem dX3_isLess_37 : decode cX3_isLess 37 = .ok (.ifCond .ge 7, 3) := by decide +kernel
theorem dX3_isLess_40 : decode cX3_isLess 40 = .ok (.iconst 1, 1) := by decide +kernel
theorem dX3_isLess_41 : decode cX3_isLess 41 = .ok (.goto 4, 3) := by decide +kernel
theorem dX3_isLess_44 : decode cX3_isLess 44 = .ok (.iconst 0, 1) := by decide +kernel
theorem dX3_isLess_45 : decode cX3_isLess 45 = .ok (.ireturn, 1) := by decide +kernel
set_option maxRecDepth 20000 in
theorem ggX3_rankOf_X3_isLess : GoodIn wsX3_rankOf wsX3_isLess := goodIn_r _ [6, 7, 1, 8, 9, 10, 5, 11, 12, 13, 14, 15, 16, 17, 18, 19] (by decide +kernel) (by decide +kernel)
set_option maxRecDepth 20000 in
theorem gX3_rankOf_X3_isLess : GoodIn wsX3_rankOf (wsV RX3 46 RX3 yX3_isLess wsX3_isLess) := goodIn_app (goodIn_of _ (by decide +kernel)) ggX3_rankOf_X3_isLess
theorem dX3_rankOf_0 : decode cX3_rankOf 0 = .ok (.iconst 0, 1) := by decide +kernel
theorem dX3_rankOf_1 : decode cX3_rankOf 1 = .ok (.istore_n 3, 1) := by decide +kernel
theorem dX3_rankOf_2 : decode cX3_rankOf 2 = .ok (.iconst 0, 1) := by decide +kernel
theorem dX3_rankOf_3 : decode cX3_rankOf 3 = .ok (.istore 4, 2) := by decide +kernel
theorem dX3_rankOf_5 : decode cX3_rankOf 5 = .ok (.iload 4, 2) := by decide +kernel
theorem dX3_rankOf_7 : decode cX3_rankOf 7 = .ok (.aload_n 0, 1) := by decide +kernel
theorem dX3_rankOf_8 : decode cX3_rankOf 8 = .ok (.getfield 14, 3) := by decide +kernel
theorem dX3_rankOf_11 : decode cX3_rankOf 11 = .ok (.iload_n 1, 1) := by decide +kernel
theorem dX3_rankOf_12 : decode cX3_rankOf 12 = .ok (.iaload, 1) := by decide +kernel
theorem dX3_rankOf_13 : decode cX3_rankOf 13 = .ok (.if_icmp .ge 28, 3) := by decide +kernel
theorem dX3_rankOf_16 : decode cX3_rankOf 16 = .ok (.iload_n 3, 1) := by decide +kernel
theorem dX3_rankOf_17 : decode cX3_rankOf 17 = .ok (.aload_n 0, 1) := by decide +kernel
theorem dX3_rankOf_18 : decode cX3_rankOf 18 = .ok (.iload_n 1, 1) := by decide +kernel
theorem dX3_rankOf_19 : decode cX3_rankOf 19 = .ok (.iload 4, 2) := by decide +kernel
theorem dX3_rankOf_21 : decode cX3_rankOf 21 = .ok (.iload_n 2, 1) := by decide +kernel
theorem dX3_rankOf_22 : decode cX3_rankOf 22 = .ok (.invokevirtual 46, 3) := by decide +kernel
theorem dX3_rankOf_25 : decode cX3_rankOf 25 = .ok (.ifCond .eq 7, 3) := by decide +kernel
theorem dX3_rankOf_28 : decode cX3_rankOf 28 = .ok (.iconst 1, 1) := by decide +kernel
theorem dX3_rankOf_29 : decode cX3_rankOf 29 = .ok (.goto 4, 3) := by decide +kernel
theorem dX3_rankOf_32 : decode cX3_rankOf 32 = .ok (.iconst 0, 1) := by decide +kernel
theorem dX3_rankOf_33 : decode cX3_rankOf 33 = .ok (.iadd, 1) := by decide +kernel
theorem dX3_rankOf_34 : decode cX3_rankOf 34 = .ok (.istore_n 3, 1) := by decide +kernel
theorem dX3_rankOf_35 : decode cX3_rankOf 35 = .ok (.iinc 4 1, 3) := by decide +kernel
theorem dX3_rankOf_38 : decode cX3_rankOf 38 = .ok (.goto (-33), 3) := by decide +kernel
theorem dX3_rankOf_41 : decode cX3_rankOf 41 = .ok (.iload_n 3, 1) := by decide +kernel
theorem dX3_rankOf_42 : decode cX3_rankOf 42 = .ok (.ireturn, 1) := by decide +kernel
set_option maxRecDepth 20000 in
theorem ggX3_look_X3_compare : GoodIn wsX3_look wsX3_compare := goodIn_r _ [7] (by decide +kernel) (by decide +kernel)
set_option maxRecDepth 20000 in
theorem gX3_look_X3_compare : GoodIn wsX3_look (va_wsS RX3 49 yX3_compare wsX3_compare) := goodIn_app (goodIn_of _ (by decide +kernel)) ggX3_look_X3_compare
theorem dX3_look_0 : decode cX3_look 0 = .ok (.aload_n 0, 1) := by decide +kernel
theorem dX3_look_1 : decode cX3_look 1 = .ok (.getfield 11, 3) := by decide +kernel
theorem dX3_look_4 : decode cX3_look 4 = .ok (.iload_n 1, 1) := by decide +kernel
theorem dX3_look_5 : decode cX3_look 5 = .ok (.aaload, 1) := by decide +kernel
theorem dX3_look_6 : decode cX3_look 6 = .ok (.aload_n 0, 1) := by decide +kernel
theorem dX3_look_7 : decode cX3_look 7 = .ok (.getfield 14, 3) := by decide +kernel
theorem dX3_look_10 : decode cX3_look 10 = .ok (.iload_n 1, 1) := by decide +kernel
theorem dX3_look_11 : decode cX3_look 11 = .ok (.iaload, 1) := by decide +kernel
theorem dX3_look_12 : decode cX3_look 12 = .ok (.aload_n 0, 1) := by decide +kernel
theorem dX3_look_13 : decode cX3_look 13 = .ok (.getfield 11, 3) := by decide +kernel
theorem dX3_look_16 : decode cX3_look 16 = .ok (.iload_n 1, 1) := by decide +kernel
theorem dX3_look_17 : decode cX3_look 17 = .ok (.aaload, 1) := by decide +kernel
theorem dX3_look_18 : decode cX3_look 18 = .ok (.aload_n 0, 1) := by decide +kernel
theorem dX3_look_19 : decode cX3_look 19 = .ok (.getfield 14, 3) := by decide +kernel
theorem dX3_look_22 : decode cX3_look 22 = .ok (.iload_n 1, 1) := by decide +kernel
theorem dX3_look_23 : decode cX3_look 23 = .ok (.iaload, 1) := by decide +kernel
theorem dX3_look_24 : decode cX3_look 24 = .ok (.aload_n 0, 1) := by decide +kernel
theorem dX3_look_25 : decode cX3_look 25 = .ok (.getfield 21, 3) := by decide +kernel
theorem dX3_look_28 : decode cX3_look 28 = .ok (.invokestatic 49, 3) := by decide +kernel
theorem dX3_look_31 : decode cX3_look 31 = .ok (.return_, 1) := by decide +kernel
set_option maxRecDepth 20000 in
theorem ggX3_order_X3_look : GoodIn wsX3_order wsX3_look := goodIn_r _ [7, 8, 1, 9, 10, 11, 6, 12, 24, 25, 26, 27, 28, 29, 30, 31] (by decide +kernel) (by decide +kernel)
set_option maxRecDepth 20000 in
theorem gX3_order_X3_look : GoodIn wsX3_order (wsV RX3 53 RX3 yX3_look wsX3_look) := goodIn_app (goodIn_of _ (by decide +kernel)) ggX3_order_X3_look
set_option maxRecDepth 20000 in
theorem ggX3_order_X3_rankOf : GoodIn wsX3_order wsX3_rankOf := goodIn_r _ [16, 1, 17, 18, 19, 6, 20, 8, 9, 21, 22, 23, 24, 25, 26, 27, 28, 29, 30, 31] (by decide +kernel) (by decide +kernel)
set_option maxRecDepth 20000 in
theorem gX3_order_X3_rankOf : GoodIn wsX3_order (wsV RX3 57 RX3 yX3_rankOf wsX3_rankOf) := goodIn_app (goodIn_of _ (by decide +kernel)) ggX3_order_X3_rankOf
theorem dX3_order_0 : decode cX3_order 0 = .ok (.aload_n 0, 1) := by decide +kernel
theorem dX3_order_1 : decode cX3_order 1 = .ok (.iload_n 1, 1) := by decide +kernel
theorem dX3_order_2 : decode cX3_order 2 = .ok (.invokevirtual 53, 3) := by decide +kernel
theorem dX3_order_5 : decode cX3_order 5 = .ok (.iconst 0, 1) := by decide +kernel
theorem dX3_order_6 : decode cX3_order 6 = .ok (.istore_n 2, 1) := by decide +kernel
theorem dX3_order_7 : decode cX3_order 7 = .ok (.iload_n 2, 1) := by decide +kernel
theorem dX3_order_8 : decode cX3_order 8 = .ok (.aload_n 0, 1) := by decide +kernel
theorem dX3_order_9 : decode cX3_order 9 = .ok (.getfield 14, 3) := by decide +kernel
theorem dX3_order_12 : decode cX3_order 12 = .ok (.iload_n 1, 1) := by decide +kernel
theorem dX3_order_13 : decode cX3_order 13 = .ok (.iaload, 1) := by decide +kernel
theorem dX3_order_14 : decode cX3_order 14 = .ok (.if_icmp .ge 21, 3) := by decide +kernel
theorem dX3_order_17 : decode cX3_order 17 = .ok (.aload_n 0, 1) := by decide +kernel
theorem dX3_order_18 : decode cX3_order 18 = .ok (.getfield 24, 3) := by decide +kernel
theorem dX3_order_21 : decode cX3_order 21 = .ok (.aload_n 0, 1) := by decide +kernel
theorem dX3_order_22 : decode cX3_order 22 = .ok (.iload_n 1, 1) := by decide +kernel
theorem dX3_order_23 : decode cX3_order 23 = .ok (.iload_n 2, 1) := by decide +kernel
theorem dX3_order_24 : decode cX3_order 24 = .ok (.invokevirtual 57, 3) := by decide +kernel
theorem dX3_order_27 : decode cX3_order 27 = .ok (.iload_n 2, 1) := by decide +kernel
theorem dX3_order_28 : decode cX3_order 28 = .ok (.iastore, 1) := by decide +kernel
theorem dX3_order_29 : decode cX3_order 29 = .ok (.iinc 2 1, 3) := by decide +kernel
theorem dX3_order_32 : decode cX3_order 32 = .ok (.goto (-25), 3) := by decide +kernel
theorem dX3_order_35 : decode cX3_order 35 = .ok (.return_, 1) := by decide +kernel
set_option maxRecDepth 20000 in
theorem ggX3_lookAtBoth_X3_compare : GoodIn wsX3_lookAtBoth wsX3_compare := goodIn_r _ [7] (by decide +kernel) (by decide +kernel)
set_option maxRecDepth 20000 in
theorem gX3_lookAtBoth_X3_compare : GoodIn wsX3_lookAtBoth (va_wsS RX3 49 yX3_compare wsX3_compare) := goodIn_app (goodIn_of _ (by decide +kernel)) ggX3_lookAtBoth_X3_compare
theorem dX3_lookAtBoth_0 : decode cX3_lookAtBoth 0 = .ok (.aload_n 0, 1) := by decide +kernel
theorem dX3_lookAtBoth_1 : decode cX3_lookAtBoth 1 = .ok (.getfield 11, 3) := by decide +kernel
theorem dX3_lookAtBoth_4 : decode cX3_lookAtBoth 4 = .ok (.iconst 0, 1) := by decide +kernel
theorem dX3_lookAtBoth_5 : decode cX3_lookAtBoth 5 = .ok (.aaload, 1) := by decide +kernel
theorem dX3_lookAtBoth_6 : decode cX3_lookAtBoth 6 = .ok (.aload_n 0, 1) := by decide +kernel
theorem dX3_lookAtBoth_7 : decode cX3_lookAtBoth 7 = .ok (.getfield 14, 3) := by decide +kernel
theorem dX3_lookAtBoth_10 : decode cX3_lookAtBoth 10 = .ok (.iconst 0, 1) := by decide +kernel
theorem dX3_lookAtBoth_11 : decode cX3_lookAtBoth 11 = .ok (.iaload, 1) := by decide +kernel
theorem dX3_lookAtBoth_12 : decode cX3_lookAtBoth 12 = .ok (.aload_n 0, 1) := by decide +kernel
theorem dX3_lookAtBoth_13 : decode cX3_lookAtBoth 13 = .ok (.getfield 11, 3) := by decide +kernel
theorem dX3_lookAtBoth_16 : decode cX3_lookAtBoth 16 = .ok (.iconst 1, 1) := by decide +kernel
theorem dX3_lookAtBoth_17 : decode cX3_lookAtBoth 17 = .ok (.aaload, 1) := by decide +kernel
theorem dX3_lookAtBoth_18 : decode cX3_lookAtBoth 18 = .ok (.aload_n 0, 1) := by decide +kernel
theorem dX3_lookAtBoth_19 : decode cX3_lookAtBoth 19 = .ok (.getfield 14, 3) := by decide +kernel
theorem dX3_lookAtBoth_22 : decode cX3_lookAtBoth 22 = .ok (.iconst 1, 1) := by decide +kernel
theorem dX3_lookAtBoth_23 : decode cX3_lookAtBoth 23 = .ok (.iaload, 1) := by decide +kernel
theorem dX3_lookAtBoth_24 : decode cX3_lookAtBoth 24 = .ok (.aload_n 0, 1) := by decide +kernel
theorem dX3_lookAtBoth_25 : decode cX3_lookAtBoth 25 = .ok (.getfield 27, 3) := by decide +kernel
theorem dX3_lookAtBoth_28 : decode cX3_lookAtBoth 28 = .ok (.invokestatic 49, 3) := by decide +kernel
theorem dX3_lookAtBoth_31 : decode cX3_lookAtBoth 31 = .ok (.return_, 1) := by decide +kernel
theorem dX3_mostBefore_0 : decode cX3_mostBefore 0 = .ok (.iconst 0, 1) := by decide +kernel
theorem dX3_mostBefore_1 : decode cX3_mostBefore 1 = .ok (.istore_n 2, 1) := by decide +kernel
theorem dX3_mostBefore_2 : decode cX3_mostBefore 2 = .ok (.iconst 0, 1) := by decide +kernel
theorem dX3_mostBefore_3 : decode cX3_mostBefore 3 = .ok (.istore_n 3, 1) := by decide +kernel
theorem dX3_mostBefore_4 : decode cX3_mostBefore 4 = .ok (.iload_n 3, 1) := by decide +kernel
theorem dX3_mostBefore_5 : decode cX3_mostBefore 5 = .ok (.iload_n 1, 1) := by decide +kernel
theorem dX3_mostBefore_6 : decode cX3_mostBefore 6 = .ok (.if_icmp .ge 22, 3) := by decide +kernel
theorem dX3_mostBefore_9 : decode cX3_mostBefore 9 = .ok (.iload_n 2, 1) := by decide +kernel
theorem dX3_mostBefore_10 : decode cX3_mostBefore 10 = .ok (.aload_n 0, 1) := by decide +kernel
theorem dX3_mostBefore_11 : decode cX3_mostBefore 11 = .ok (.getfield 21, 3) := by decide +kernel
theorem dX3_mostBefore_14 : decode cX3_mostBefore 14 = .ok (.iload_n 1, 1) := by decide +kernel
theorem dX3_mostBefore_15 : decode cX3_mostBefore 15 = .ok (.aaload, 1) := by decide +kernel
theorem dX3_mostBefore_16 : decode cX3_mostBefore 16 = .ok (.iload_n 3, 1) := by decide +kernel
theorem dX3_mostBefore_17 : decode cX3_mostBefore 17 = .ok (.iaload, 1) := by decide +kernel
theorem dX3_mostBefore_18 : decode cX3_mostBefore 18 = .ok (.invokestatic 61, 3) := by decide +kernel
theorem dX3_mostBefore_21 : decode cX3_mostBefore 21 = .ok (.istore_n 2, 1) := by decide +kernel
theorem dX3_mostBefore_22 : decode cX3_mostBefore 22 = .ok (.iinc 3 1, 3) := by decide +kernel
theorem dX3_mostBefore_25 : decode cX3_mostBefore 25 = .ok (.goto (-21), 3) := by decide +kernel
theorem dX3_mostBefore_28 : decode cX3_mostBefore 28 = .ok (.iload_n 2, 1) := by decide +kernel
theorem dX3_mostBefore_29 : decode cX3_mostBefore 29 = .ok (.ireturn, 1) := by decide +kernel
set_option maxRecDepth 20000 in
theorem ggX3_differentRows_X3_look : GoodIn wsX3_differentRows wsX3_look := goodIn_r _ [6, 7, 1, 8, 9, 10, 5, 11, 20, 21, 22, 23, 24, 25, 26, 27] (by decide +kernel) (by decide +kernel)
set_option maxRecDepth 20000 in
theorem gX3_differentRows_X3_look : GoodIn wsX3_differentRows (wsV RX3 53 RX3 yX3_look wsX3_look) := goodIn_app (goodIn_of _ (by decide +kernel)) ggX3_differentRows_X3_look
set_option maxRecDepth 20000 in
theorem ggX3_differentRows_X3_mostBefore : GoodIn wsX3_differentRows wsX3_mostBefore := goodIn_r _ [15, 8, 16, 17, 18, 19, 20, 21, 22, 23, 24, 25, 26, 27] (by decide +kernel) (by decide +kernel)
set_option maxRecDepth 20000 in
theorem gX3_differentRows_X3_mostBefore : GoodIn wsX3_differentRows (wsV RX3 66 RX3 yX3_mostBefore wsX3_mostBefore) := goodIn_app (goodIn_of _ (by decide +kernel)) ggX3_differentRows_X3_mostBefore
theorem dX3_differentRows_0 : decode cX3_differentRows 0 = .ok (.aload_n 0, 1) := by decide +kernel
theorem dX3_differentRows_1 : decode cX3_differentRows 1 = .ok (.iload_n 1, 1) := by decide +kernel
theorem dX3_differentRows_2 : decode cX3_differentRows 2 = .ok (.invokevirtual 53, 3) := by decide +kernel
theorem dX3_differentRows_5 : decode cX3_differentRows 5 = .ok (.iconst 0, 1) := by decide +kernel
theorem dX3_differentRows_6 : decode cX3_differentRows 6 = .ok (.istore_n 2, 1) := by decide +kernel
theorem dX3_differentRows_7 : decode cX3_differentRows 7 = .ok (.iconst 0, 1) := by decide +kernel
theorem dX3_differentRows_8 : decode cX3_differentRows 8 = .ok (.istore_n 3, 1) := by decide +kernel
theorem dX3_differentRows_9 : decode cX3_differentRows 9 = .ok (.iload_n 3, 1) := by decide +kernel
theorem dX3_differentRows_10 : decode cX3_differentRows 10 = .ok (.aload_n 0, 1) := by decide +kernel
theorem dX3_differentRows_11 : decode cX3_differentRows 11 = .ok (.getfield 14, 3) := by decide +kernel
theorem dX3_differentRows_14 : decode cX3_differentRows 14 = .ok (.iload_n 1, 1) := by decide +kernel
theorem dX3_differentRows_15 : decode cX3_differentRows 15 = .ok (.iaload, 1) := by decide +kernel
theorem dX3_differentRows_16 : decode cX3_differentRows 16 = .ok (.if_icmp .ge 26, 3) := by decide +kernel
theorem dX3_differentRows_19 : decode cX3_differentRows 19 = .ok (.iload_n 2, 1) := by decide +kernel
theorem dX3_differentRows_20 : decode cX3_differentRows 20 = .ok (.aload_n 0, 1) := by decide +kernel
theorem dX3_differentRows_21 : decode cX3_differentRows 21 = .ok (.getfield 14, 3) := by decide +kernel
theorem dX3_differentRows_24 : decode cX3_differentRows 24 = .ok (.iload_n 1, 1) := by decide +kernel
theorem dX3_differentRows_25 : decode cX3_differentRows 25 = .ok (.iaload, 1) := by decide +kernel
theorem dX3_differentRows_26 : decode cX3_differentRows 26 = .ok (.iload_n 3, 1) := by decide +kernel
theorem dX3_differentRows_27 : decode cX3_differentRows 27 = .ok (.isub, 1) := by decide +kernel
theorem dX3_differentRows_28 : decode cX3_differentRows 28 = .ok (.aload_n 0, 1) := by decide +kernel
theorem dX3_differentRows_29 : decode cX3_differentRows 29 = .ok (.iload_n 3, 1) := by decide +kernel
theorem dX3_differentRows_30 : decode cX3_differentRows 30 = .ok (.invokevirtual 66, 3) := by decide +kernel
theorem dX3_differentRows_33 : decode cX3_differentRows 33 = .ok (.isub, 1) := by decide +kernel
theorem dX3_differentRows_34 : decode cX3_differentRows 34 = .ok (.iadd, 1) := by decide +kernel
theorem dX3_differentRows_35 : decode cX3_differentRows 35 = .ok (.istore_n 2, 1) := by decide +kernel
theorem dX3_differentRows_36 : decode cX3_differentRows 36 = .ok (.iinc 3 1, 3) := by decide +kernel
theorem dX3_differentRows_39 : decode cX3_differentRows 39 = .ok (.goto (-30), 3) := by decide +kernel
theorem dX3_differentRows_42 : decode cX3_differentRows 42 = .ok (.iload_n 2, 1) := by decide +kernel
theorem dX3_differentRows_43 : decode cX3_differentRows 43 = .ok (.ireturn, 1) := by decide +kernel
theorem dX3_mostBeside_0 : decode cX3_mostBeside 0 = .ok (.iconst 0, 1) := by decide +kernel
theorem dX3_mostBeside_1 : decode cX3_mostBeside 1 = .ok (.istore_n 3, 1) := by decide +kernel
theorem dX3_mostBeside_2 : decode cX3_mostBeside 2 = .ok (.iconst 0, 1) := by decide +kernel
theorem dX3_mostBeside_3 : decode cX3_mostBeside 3 = .ok (.istore 4, 2) := by decide +kernel
theorem dX3_mostBeside_5 : decode cX3_mostBeside 5 = .ok (.iload 4, 2) := by decide +kernel
theorem dX3_mostBeside_7 : decode cX3_mostBeside 7 = .ok (.aload_n 0, 1) := by decide +kernel
theorem dX3_mostBeside_8 : decode cX3_mostBeside 8 = .ok (.getfield 14, 3) := by decide +kernel
theorem dX3_mostBeside_11 : decode cX3_mostBeside 11 = .ok (.iload_n 1, 1) := by decide +kernel
theorem dX3_mostBeside_12 : decode cX3_mostBeside 12 = .ok (.iaload, 1) := by decide +kernel
theorem dX3_mostBeside_13 : decode cX3_mostBeside 13 = .ok (.if_icmp .ge 29, 3) := by decide +kernel
theorem dX3_mostBeside_16 : decode cX3_mostBeside 16 = .ok (.iload 4, 2) := by decide +kernel
theorem dX3_mostBeside_18 : decode cX3_mostBeside 18 = .ok (.iload_n 2, 1) := by decide +kernel
theorem dX3_mostBeside_19 : decode cX3_mostBeside 19 = .ok (.if_icmp .eq 17, 3) := by decide +kernel
theorem dX3_mostBeside_22 : decode cX3_mostBeside 22 = .ok (.iload_n 3, 1) := by decide +kernel
theorem dX3_mostBeside_23 : decode cX3_mostBeside 23 = .ok (.aload_n 0, 1) := by decide +kernel
theorem dX3_mostBeside_24 : decode cX3_mostBeside 24 = .ok (.getfield 21, 3) := by decide +kernel
theorem dX3_mostBeside_27 : decode cX3_mostBeside 27 = .ok (.iload_n 2, 1) := by decide +kernel
theorem dX3_mostBeside_28 : decode cX3_mostBeside 28 = .ok (.aaload, 1) := by decide +kernel
theorem dX3_mostBeside_29 : decode cX3_mostBeside 29 = .ok (.iload 4, 2) := by decide +kernel
theorem dX3_mostBeside_31 : decode cX3_mostBeside 31 = .ok (.iaload, 1) := by decide +kernel
theorem dX3_mostBeside_32 : decode cX3_mostBeside 32 = .ok (.invokestatic 61, 3) := by decide +kernel
theorem dX3_mostBeside_35 : decode cX3_mostBeside 35 = .ok (.istore_n 3, 1) := by decide +kernel
theorem dX3_mostBeside_36 : decode cX3_mostBeside 36 = .ok (.iinc 4 1, 3) := by decide +kernel
theorem dX3_mostBeside_39 : decode cX3_mostBeside 39 = .ok (.goto (-34), 3) := by decide +kernel
theorem dX3_mostBeside_42 : decode cX3_mostBeside 42 = .ok (.iload_n 3, 1) := by decide +kernel
theorem dX3_mostBeside_43 : decode cX3_mostBeside 43 = .ok (.ireturn, 1) := by decide +kernel
theorem dX3_firstPlace_0 : decode cX3_firstPlace 0 = .ok (.iconst 0, 1) := by decide +kernel
theorem dX3_firstPlace_1 : decode cX3_firstPlace 1 = .ok (.istore_n 3, 1) := by decide +kernel
theorem dX3_firstPlace_2 : decode cX3_firstPlace 2 = .ok (.aload_n 0, 1) := by decide +kernel
theorem dX3_firstPlace_3 : decode cX3_firstPlace 3 = .ok (.getfield 21, 3) := by decide +kernel
theorem dX3_firstPlace_6 : decode cX3_firstPlace 6 = .ok (.iload_n 3, 1) := by decide +kernel
theorem dX3_firstPlace_7 : decode cX3_firstPlace 7 = .ok (.aaload, 1) := by decide +kernel
theorem dX3_firstPlace_8 : decode cX3_firstPlace 8 = .ok (.iload_n 1, 1) := by decide +kernel
theorem dX3_firstPlace_9 : decode cX3_firstPlace 9 = .ok (.iaload, 1) := by decide +kernel
theorem dX3_firstPlace_10 : decode cX3_firstPlace 10 = .ok (.iload_n 2, 1) := by decide +kernel
theorem dX3_firstPlace_11 : decode cX3_firstPlace 11 = .ok (.if_icmp .ge 9, 3) := by decide +kernel
theorem dX3_firstPlace_14 : decode cX3_firstPlace 14 = .ok (.iinc 3 1, 3) := by decide +kernel
theorem dX3_firstPlace_17 : decode cX3_firstPlace 17 = .ok (.goto (-15), 3) := by decide +kernel
theorem dX3_firstPlace_20 : decode cX3_firstPlace 20 = .ok (.iload_n 3, 1) := by decide +kernel
theorem dX3_firstPlace_21 : decode cX3_firstPlace 21 = .ok (.ireturn, 1) := by decide +kernel
theorem dX3_placesOf_0 : decode cX3_placesOf 0 = .ok (.iconst 0, 1) := by decide +kernel
theorem dX3_placesOf_1 : decode cX3_placesOf 1 = .ok (.istore 4, 2) := by decide +kernel
theorem dX3_placesOf_3 : decode cX3_placesOf 3 = .ok (.iconst 0, 1) := by decide +kernel
theorem dX3_placesOf_4 : decode cX3_placesOf 4 = .ok (.istore 5, 2) := by decide +kernel
theorem dX3_placesOf_6 : decode cX3_placesOf 6 = .ok (.iload 5, 2) := by decide +kernel
theorem dX3_placesOf_8 : decode cX3_placesOf 8 = .ok (.aload_n 0, 1) := by decide +kernel
theorem dX3_placesOf_9 : decode cX3_placesOf 9 = .ok (.getfield 14, 3) := by decide +kernel
theorem dX3_placesOf_12 : decode cX3_placesOf 12 = .ok (.iload_n 1, 1) := by decide +kernel
theorem dX3_placesOf_13 : decode cX3_placesOf 13 = .ok (.iaload, 1) := by decide +kernel
theorem dX3_placesOf_14 : decode cX3_placesOf 14 = .ok (.if_icmp .ge 32, 3) := by decide +kernel
theorem dX3_placesOf_17 : decode cX3_placesOf 17 = .ok (.iload 4, 2) := by decide +kernel
theorem dX3_placesOf_19 : decode cX3_placesOf 19 = .ok (.aload_n 0, 1) := by decide +kernel
theorem dX3_placesOf_20 : decode cX3_placesOf 20 = .ok (.getfield 21, 3) := by decide +kernel
theorem dX3_placesOf_23 : decode cX3_placesOf 23 = .ok (.iload 5, 2) := by decide +kernel
theorem dX3_placesOf_25 : decode cX3_placesOf 25 = .ok (.aaload, 1) := by decide +kernel
theorem dX3_placesOf_26 : decode cX3_placesOf 26 = .ok (.iload_n 2, 1) := by decide +kernel
theorem dX3_placesOf_27 : decode cX3_placesOf 27 = .ok (.iaload, 1) := by decide +kernel
theorem dX3_placesOf_28 : decode cX3_placesOf 28 = .ok (.iload_n 3, 1) := by decide +kernel
theorem dX3_placesOf_29 : decode cX3_placesOf 29 = .ok (.if_icmp .lt 7, 3) := by decide +kernel
theorem dX3_placesOf_32 : decode cX3_placesOf 32 = .ok (.iconst 1, 1) := by decide +kernel
theorem dX3_placesOf_33 : decode cX3_placesOf 33 = .ok (.goto 4, 3) := by decide +kernel
theorem dX3_placesOf_36 : decode cX3_placesOf 36 = .ok (.iconst 0, 1) := by decide +kernel
theorem dX3_placesOf_37 : decode cX3_placesOf 37 = .ok (.iadd, 1) := by decide +kernel
theorem dX3_placesOf_38 : decode cX3_placesOf 38 = .ok (.istore 4, 2) := by decide +kernel
theorem dX3_placesOf_40 : decode cX3_placesOf 40 = .ok (.iinc 5 1, 3) := by decide +kernel
theorem dX3_placesOf_43 : decode cX3_placesOf 43 = .ok (.goto (-37), 3) := by decide +kernel
theorem dX3_placesOf_46 : decode cX3_placesOf 46 = .ok (.iload 4, 2) := by decide +kernel
theorem dX3_placesOf_48 : decode cX3_placesOf 48 = .ok (.ireturn, 1) := by decide +kernel
set_option maxRecDepth 20000 in
theorem ggX3_repeatTold_X3_look : GoodIn wsX3_repeatTold wsX3_look := goodIn_r _ [7, 8, 1, 2, 9, 10, 6, 11, 31, 32, 33, 34, 35, 36, 37, 38] (by decide +kernel) (by decide +kernel)
set_option maxRecDepth 20000 in
theorem gX3_repeatTold_X3_look : GoodIn wsX3_repeatTold (wsV RX3 53 RX3 yX3_look wsX3_look) := goodIn_app (goodIn_of _ (by decide +kernel)) ggX3_repeatTold_X3_look
set_option maxRecDepth 20000 in
theorem ggX3_repeatTold_X3_mostBeside : GoodIn wsX3_repeatTold wsX3_mostBeside := goodIn_r _ [15, 1, 2, 16, 17, 18, 19, 31, 32, 33, 34, 35, 36, 37, 38] (by decide +kernel) (by decide +kernel)
set_option maxRecDepth 20000 in
theorem gX3_repeatTold_X3_mostBeside : GoodIn wsX3_repeatTold (wsV RX3 70 RX3 yX3_mostBeside wsX3_mostBeside) := goodIn_app (goodIn_of _ (by decide +kernel)) ggX3_repeatTold_X3_mostBeside
set_option maxRecDepth 20000 in
theorem ggX3_repeatTold_X3_isLess : GoodIn wsX3_repeatTold wsX3_isLess := goodIn_r _ [23, 8, 1, 2, 24, 25, 6, 26, 31, 32, 33, 34, 35, 36, 37, 38] (by decide +kernel) (by decide +kernel)
set_option maxRecDepth 20000 in
theorem gX3_repeatTold_X3_isLess : GoodIn wsX3_repeatTold (wsV RX3 46 RX3 yX3_isLess wsX3_isLess) := goodIn_app (goodIn_of _ (by decide +kernel)) ggX3_repeatTold_X3_isLess
set_option maxRecDepth 20000 in
theorem ggX3_repeatTold_X3_placesOf : GoodIn wsX3_repeatTold wsX3_placesOf := goodIn_r _ [30, 1, 2, 31, 32, 33, 34, 35, 36, 37, 38] (by decide +kernel) (by decide +kernel)
set_option maxRecDepth 20000 in
theorem gX3_repeatTold_X3_placesOf : GoodIn wsX3_repeatTold (wsV RX3 73 RX3 yX3_placesOf wsX3_placesOf) := goodIn_app (goodIn_of _ (by decide +kernel)) ggX3_repeatTold_X3_placesOf
theorem dX3_repeatTold_0 : decode cX3_repeatTold 0 = .ok (.aload_n 0, 1) := by decide +kernel
theorem dX3_repeatTold_1 : decode cX3_repeatTold 1 = .ok (.iload_n 1, 1) := by decide +kernel
theorem dX3_repeatTold_2 : decode cX3_repeatTold 2 = .ok (.invokevirtual 53, 3) := by decide +kernel
theorem dX3_repeatTold_5 : decode cX3_repeatTold 5 = .ok (.iconst (-1), 1) := by decide +kernel
theorem dX3_repeatTold_6 : decode cX3_repeatTold 6 = .ok (.istore_n 3, 1) := by decide +kernel
theorem dX3_repeatTold_7 : decode cX3_repeatTold 7 = .ok (.iconst 0, 1) := by decide +kernel
theorem dX3_repeatTold_8 : decode cX3_repeatTold 8 = .ok (.istore 4, 2) := by decide +kernel
theorem dX3_repeatTold_10 : decode cX3_repeatTold 10 = .ok (.iconst 0, 1) := by decide +kernel
theorem dX3_repeatTold_11 : decode cX3_repeatTold 11 = .ok (.istore 5, 2) := by decide +kernel
theorem dX3_repeatTold_13 : decode cX3_repeatTold 13 = .ok (.iload 5, 2) := by decide +kernel
theorem dX3_repeatTold_15 : decode cX3_repeatTold 15 = .ok (.aload_n 0, 1) := by decide +kernel
theorem dX3_repeatTold_16 : decode cX3_repeatTold 16 = .ok (.getfield 14, 3) := by decide +kernel
theorem dX3_repeatTold_19 : decode cX3_repeatTold 19 = .ok (.iload_n 1, 1) := by decide +kernel
theorem dX3_repeatTold_20 : decode cX3_repeatTold 20 = .ok (.iaload, 1) := by decide +kernel
theorem dX3_repeatTold_21 : decode cX3_repeatTold 21 = .ok (.if_icmp .ge 75, 3) := by decide +kernel
theorem dX3_repeatTold_24 : decode cX3_repeatTold 24 = .ok (.aload_n 0, 1) := by decide +kernel
theorem dX3_repeatTold_25 : decode cX3_repeatTold 25 = .ok (.iload_n 1, 1) := by decide +kernel
theorem dX3_repeatTold_26 : decode cX3_repeatTold 26 = .ok (.iload 5, 2) := by decide +kernel
theorem dX3_repeatTold_28 : decode cX3_repeatTold 28 = .ok (.invokevirtual 70, 3) := by decide +kernel
theorem dX3_repeatTold_31 : decode cX3_repeatTold 31 = .ok (.istore 6, 2) := by decide +kernel
theorem dX3_repeatTold_33 : decode cX3_repeatTold 33 = .ok (.iload 6, 2) := by decide +kernel
theorem dX3_repeatTold_35 : decode cX3_repeatTold 35 = .ok (.iload 4, 2) := by decide +kernel
theorem dX3_repeatTold_37 : decode cX3_repeatTold 37 = .ok (.if_icmp .lt 53, 3) := by decide +kernel
theorem dX3_repeatTold_40 : decode cX3_repeatTold 40 = .ok (.iload 6, 2) := by decide +kernel
theorem dX3_repeatTold_42 : decode cX3_repeatTold 42 = .ok (.ifCond .ne 6, 3) := by decide +kernel
theorem dX3_repeatTold_45 : decode cX3_repeatTold 45 = .ok (.goto 45, 3) := by decide +kernel
theorem dX3_repeatTold_48 : decode cX3_repeatTold 48 = .ok (.iload 6, 2) := by decide +kernel
theorem dX3_repeatTold_50 : decode cX3_repeatTold 50 = .ok (.iload 4, 2) := by decide +kernel
theorem dX3_repeatTold_52 : decode cX3_repeatTold 52 = .ok (.if_icmp .ne 31, 3) := by decide +kernel
theorem dX3_repeatTold_55 : decode cX3_repeatTold 55 = .ok (.aload_n 0, 1) := by decide +kernel
theorem dX3_repeatTold_56 : decode cX3_repeatTold 56 = .ok (.getfield 21, 3) := by decide +kernel
theorem dX3_repeatTold_59 : decode cX3_repeatTold 59 = .ok (.iload 5, 2) := by decide +kernel
theorem dX3_repeatTold_61 : decode cX3_repeatTold 61 = .ok (.aaload, 1) := by decide +kernel
theorem dX3_repeatTold_62 : decode cX3_repeatTold 62 = .ok (.iload_n 3, 1) := by decide +kernel
theorem dX3_repeatTold_63 : decode cX3_repeatTold 63 = .ok (.iaload, 1) := by decide +kernel
theorem dX3_repeatTold_64 : decode cX3_repeatTold 64 = .ok (.iload 4, 2) := by decide +kernel
theorem dX3_repeatTold_66 : decode cX3_repeatTold 66 = .ok (.if_icmp .ge 24, 3) := by decide +kernel
theorem dX3_repeatTold_69 : decode cX3_repeatTold 69 = .ok (.aload_n 0, 1) := by decide +kernel
theorem dX3_repeatTold_70 : decode cX3_repeatTold 70 = .ok (.iload_n 1, 1) := by decide +kernel
theorem dX3_repeatTold_71 : decode cX3_repeatTold 71 = .ok (.iload 5, 2) := by decide +kernel
theorem dX3_repeatTold_73 : decode cX3_repeatTold 73 = .ok (.iload_n 3, 1) := by decide +kernel
theorem dX3_repeatTold_74 : decode cX3_repeatTold 74 = .ok (.invokevirtual 46, 3) := by decide +kernel
theorem dX3_repeatTold_77 : decode cX3_repeatTold 77 = .ok (.ifCond .ne 6, 3) := by decide +kernel
theorem dX3_repeatTold_80 : decode cX3_repeatTold 80 = .ok (.goto 10, 3) := by decide +kernel
theorem dX3_repeatTold_83 : decode cX3_repeatTold 83 = .ok (.iload 5, 2) := by decide +kernel
theorem dX3_repeatTold_85 : decode cX3_repeatTold 85 = .ok (.istore_n 3, 1) := by decide +kernel
theorem dX3_repeatTold_86 : decode cX3_repeatTold 86 = .ok (.iload 6, 2) := by decide +kernel
theorem dX3_repeatTold_88 : decode cX3_repeatTold 88 = .ok (.istore 4, 2) := by decide +kernel
theorem dX3_repeatTold_90 : decode cX3_repeatTold 90 = .ok (.iinc 5 1, 3) := by decide +kernel
theorem dX3_repeatTold_93 : decode cX3_repeatTold 93 = .ok (.goto (-80), 3) := by decide +kernel
theorem dX3_repeatTold_96 : decode cX3_repeatTold 96 = .ok (.iload_n 2, 1) := by decide +kernel
theorem dX3_repeatTold_97 : decode cX3_repeatTold 97 = .ok (.ifCond .ne 6, 3) := by decide +kernel
theorem dX3_repeatTold_100 : decode cX3_repeatTold 100 = .ok (.iload 4, 2) := by decide +kernel
theorem dX3_repeatTold_102 : decode cX3_repeatTold 102 = .ok (.ireturn, 1) := by decide +kernel
theorem dX3_repeatTold_103 : decode cX3_repeatTold 103 = .ok (.iload_n 2, 1) := by decide +kernel
theorem dX3_repeatTold_104 : decode cX3_repeatTold 104 = .ok (.iconst 1, 1) := by decide +kernel
theorem dX3_repeatTold_105 : decode cX3_repeatTold 105 = .ok (.if_icmp .ne 7, 3) := by decide +kernel
theorem dX3_repeatTold_108 : decode cX3_repeatTold 108 = .ok (.iload_n 3, 1) := by decide +kernel
theorem dX3_repeatTold_109 : decode cX3_repeatTold 109 = .ok (.goto 20, 3) := by decide +kernel
theorem dX3_repeatTold_112 : decode cX3_repeatTold 112 = .ok (.iload_n 3, 1) := by decide +kernel
theorem dX3_repeatTold_113 : decode cX3_repeatTold 113 = .ok (.iconst (-1), 1) := by decide +kernel
theorem dX3_repeatTold_114 : decode cX3_repeatTold 114 = .ok (.if_icmp .ne 7, 3) := by decide +kernel
theorem dX3_repeatTold_117 : decode cX3_repeatTold 117 = .ok (.iconst 0, 1) := by decide +kernel
theorem dX3_repeatTold_118 : decode cX3_repeatTold 118 = .ok (.goto 11, 3) := by decide +kernel
theorem dX3_repeatTold_121 : decode cX3_repeatTold 121 = .ok (.aload_n 0, 1) := by decide +kernel
theorem dX3_repeatTold_122 : decode cX3_repeatTold 122 = .ok (.iload_n 1, 1) := by decide +kernel
theorem dX3_repeatTold_123 : decode cX3_repeatTold 123 = .ok (.iload_n 3, 1) := by decide +kernel
theorem dX3_repeatTold_124 : decode cX3_repeatTold 124 = .ok (.iload 4, 2) := by decide +kernel
theorem dX3_repeatTold_126 : decode cX3_repeatTold 126 = .ok (.invokevirtual 73, 3) := by decide +kernel
theorem dX3_repeatTold_129 : decode cX3_repeatTold 129 = .ok (.ireturn, 1) := by decide +kernel
theorem dX3_mostAcross_0 : decode cX3_mostAcross 0 = .ok (.iconst 0, 1) := by decide +kernel
theorem dX3_mostAcross_1 : decode cX3_mostAcross 1 = .ok (.istore_n 2, 1) := by decide +kernel
theorem dX3_mostAcross_2 : decode cX3_mostAcross 2 = .ok (.iconst 0, 1) := by decide +kernel
theorem dX3_mostAcross_3 : decode cX3_mostAcross 3 = .ok (.istore_n 3, 1) := by decide +kernel
theorem dX3_mostAcross_4 : decode cX3_mostAcross 4 = .ok (.iload_n 3, 1) := by decide +kernel
theorem dX3_mostAcross_5 : decode cX3_mostAcross 5 = .ok (.aload_n 0, 1) := by decide +kernel
theorem dX3_mostAcross_6 : decode cX3_mostAcross 6 = .ok (.getfield 14, 3) := by decide +kernel
theorem dX3_mostAcross_9 : decode cX3_mostAcross 9 = .ok (.iconst 1, 1) := by decide +kernel
theorem dX3_mostAcross_10 : decode cX3_mostAcross 10 = .ok (.iaload, 1) := by decide +kernel
theorem dX3_mostAcross_11 : decode cX3_mostAcross 11 = .ok (.if_icmp .ge 22, 3) := by decide +kernel
theorem dX3_mostAcross_14 : decode cX3_mostAcross 14 = .ok (.iload_n 2, 1) := by decide +kernel
theorem dX3_mostAcross_15 : decode cX3_mostAcross 15 = .ok (.aload_n 0, 1) := by decide +kernel
theorem dX3_mostAcross_16 : decode cX3_mostAcross 16 = .ok (.getfield 27, 3) := by decide +kernel
theorem dX3_mostAcross_19 : decode cX3_mostAcross 19 = .ok (.iload_n 1, 1) := by decide +kernel
theorem dX3_mostAcross_20 : decode cX3_mostAcross 20 = .ok (.aaload, 1) := by decide +kernel
theorem dX3_mostAcross_21 : decode cX3_mostAcross 21 = .ok (.iload_n 3, 1) := by decide +kernel
theorem dX3_mostAcross_22 : decode cX3_mostAcross 22 = .ok (.iaload, 1) := by decide +kernel
theorem dX3_mostAcross_23 : decode cX3_mostAcross 23 = .ok (.invokestatic 61, 3) := by decide +kernel
theorem dX3_mostAcross_26 : decode cX3_mostAcross 26 = .ok (.istore_n 2, 1) := by decide +kernel
theorem dX3_mostAcross_27 : decode cX3_mostAcross 27 = .ok (.iinc 3 1, 3) := by decide +kernel
theorem dX3_mostAcross_30 : decode cX3_mostAcross 30 = .ok (.goto (-26), 3) := by decide +kernel
theorem dX3_mostAcross_33 : decode cX3_mostAcross 33 = .ok (.iload_n 2, 1) := by decide +kernel
theorem dX3_mostAcross_34 : decode cX3_mostAcross 34 = .ok (.ireturn, 1) := by decide +kernel
set_option maxRecDepth 20000 in
theorem ggX3_seamTold_X3_look : GoodIn wsX3_seamTold wsX3_look := goodIn_r _ [8, 9, 1, 2, 10, 11, 7, 12, 32, 33, 34, 35, 36, 37, 38, 39] (by decide +kernel) (by decide +kernel)
set_option maxRecDepth 20000 in
theorem gX3_seamTold_X3_look : GoodIn wsX3_seamTold (wsV RX3 53 RX3 yX3_look wsX3_look) := goodIn_app (goodIn_of _ (by decide +kernel)) ggX3_seamTold_X3_look
set_option maxRecDepth 20000 in
theorem ggX3_seamTold_X3_lookAtBoth : GoodIn wsX3_seamTold wsX3_lookAtBoth := goodIn_r _ [16, 9, 1, 3, 10, 11, 7, 12, 32, 33, 34, 35, 36, 37, 38, 39] (by decide +kernel) (by decide +kernel)
set_option maxRecDepth 20000 in
theorem gX3_seamTold_X3_lookAtBoth : GoodIn wsX3_seamTold (wsV RX3 77 RX3 yX3_lookAtBoth wsX3_lookAtBoth) := goodIn_app (goodIn_of _ (by decide +kernel)) ggX3_seamTold_X3_lookAtBoth
set_option maxRecDepth 20000 in
theorem ggX3_seamTold_X3_mostAcross : GoodIn wsX3_seamTold wsX3_mostAcross := goodIn_r _ [20, 1, 3, 21, 22, 23, 24, 32, 33, 34, 35, 36, 37, 38, 39] (by decide +kernel) (by decide +kernel)
set_option maxRecDepth 20000 in
theorem gX3_seamTold_X3_mostAcross : GoodIn wsX3_seamTold (wsV RX3 80 RX3 yX3_mostAcross wsX3_mostAcross) := goodIn_app (goodIn_of _ (by decide +kernel)) ggX3_seamTold_X3_mostAcross
set_option maxRecDepth 20000 in
theorem ggX3_seamTold_X3_isLess : GoodIn wsX3_seamTold wsX3_isLess := goodIn_r _ [28, 9, 1, 2, 29, 30, 7, 31, 32, 33, 34, 35, 36, 37, 38, 39] (by decide +kernel) (by decide +kernel)
set_option maxRecDepth 20000 in
theorem gX3_seamTold_X3_isLess : GoodIn wsX3_seamTold (wsV RX3 46 RX3 yX3_isLess wsX3_isLess) := goodIn_app (goodIn_of _ (by decide +kernel)) ggX3_seamTold_X3_isLess
theorem dX3_seamTold_0 : decode cX3_seamTold 0 = .ok (.aload_n 0, 1) := by decide +kernel
theorem dX3_seamTold_1 : decode cX3_seamTold 1 = .ok (.iconst 0, 1) := by decide +kernel
theorem dX3_seamTold_2 : decode cX3_seamTold 2 = .ok (.invokevirtual 53, 3) := by decide +kernel
theorem dX3_seamTold_5 : decode cX3_seamTold 5 = .ok (.aload_n 0, 1) := by decide +kernel
theorem dX3_seamTold_6 : decode cX3_seamTold 6 = .ok (.invokevirtual 77, 3) := by decide +kernel
theorem dX3_seamTold_9 : decode cX3_seamTold 9 = .ok (.iconst (-1), 1) := by decide +kernel
theorem dX3_seamTold_10 : decode cX3_seamTold 10 = .ok (.istore_n 2, 1) := by decide +kernel
theorem dX3_seamTold_11 : decode cX3_seamTold 11 = .ok (.iconst 0, 1) := by decide +kernel
theorem dX3_seamTold_12 : decode cX3_seamTold 12 = .ok (.istore_n 3, 1) := by decide +kernel
theorem dX3_seamTold_13 : decode cX3_seamTold 13 = .ok (.iconst 0, 1) := by decide +kernel
theorem dX3_seamTold_14 : decode cX3_seamTold 14 = .ok (.istore 4, 2) := by decide +kernel
theorem dX3_seamTold_16 : decode cX3_seamTold 16 = .ok (.iload 4, 2) := by decide +kernel
theorem dX3_seamTold_18 : decode cX3_seamTold 18 = .ok (.aload_n 0, 1) := by decide +kernel
theorem dX3_seamTold_19 : decode cX3_seamTold 19 = .ok (.getfield 14, 3) := by decide +kernel
theorem dX3_seamTold_22 : decode cX3_seamTold 22 = .ok (.iconst 0, 1) := by decide +kernel
theorem dX3_seamTold_23 : decode cX3_seamTold 23 = .ok (.iaload, 1) := by decide +kernel
theorem dX3_seamTold_24 : decode cX3_seamTold 24 = .ok (.if_icmp .ge 70, 3) := by decide +kernel
theorem dX3_seamTold_27 : decode cX3_seamTold 27 = .ok (.aload_n 0, 1) := by decide +kernel
theorem dX3_seamTold_28 : decode cX3_seamTold 28 = .ok (.iload 4, 2) := by decide +kernel
theorem dX3_seamTold_30 : decode cX3_seamTold 30 = .ok (.invokevirtual 80, 3) := by decide +kernel
theorem dX3_seamTold_33 : decode cX3_seamTold 33 = .ok (.istore 5, 2) := by decide +kernel
theorem dX3_seamTold_35 : decode cX3_seamTold 35 = .ok (.iload 5, 2) := by decide +kernel
theorem dX3_seamTold_37 : decode cX3_seamTold 37 = .ok (.iload_n 3, 1) := by decide +kernel
theorem dX3_seamTold_38 : decode cX3_seamTold 38 = .ok (.if_icmp .lt 50, 3) := by decide +kernel
theorem dX3_seamTold_41 : decode cX3_seamTold 41 = .ok (.iload 5, 2) := by decide +kernel
theorem dX3_seamTold_43 : decode cX3_seamTold 43 = .ok (.ifCond .ne 6, 3) := by decide +kernel
theorem dX3_seamTold_46 : decode cX3_seamTold 46 = .ok (.goto 42, 3) := by decide +kernel
theorem dX3_seamTold_49 : decode cX3_seamTold 49 = .ok (.iload 5, 2) := by decide +kernel
theorem dX3_seamTold_51 : decode cX3_seamTold 51 = .ok (.iload_n 3, 1) := by decide +kernel
theorem dX3_seamTold_52 : decode cX3_seamTold 52 = .ok (.if_icmp .ne 30, 3) := by decide +kernel
theorem dX3_seamTold_55 : decode cX3_seamTold 55 = .ok (.aload_n 0, 1) := by decide +kernel
theorem dX3_seamTold_56 : decode cX3_seamTold 56 = .ok (.getfield 21, 3) := by decide +kernel
theorem dX3_seamTold_59 : decode cX3_seamTold 59 = .ok (.iload 4, 2) := by decide +kernel
theorem dX3_seamTold_61 : decode cX3_seamTold 61 = .ok (.aaload, 1) := by decide +kernel
theorem dX3_seamTold_62 : decode cX3_seamTold 62 = .ok (.iload_n 2, 1) := by decide +kernel
theorem dX3_seamTold_63 : decode cX3_seamTold 63 = .ok (.iaload, 1) := by decide +kernel
theorem dX3_seamTold_64 : decode cX3_seamTold 64 = .ok (.iload_n 3, 1) := by decide +kernel
theorem dX3_seamTold_65 : decode cX3_seamTold 65 = .ok (.if_icmp .ge 23, 3) := by decide +kernel
theorem dX3_seamTold_68 : decode cX3_seamTold 68 = .ok (.aload_n 0, 1) := by decide +kernel
theorem dX3_seamTold_69 : decode cX3_seamTold 69 = .ok (.iconst 0, 1) := by decide +kernel
theorem dX3_seamTold_70 : decode cX3_seamTold 70 = .ok (.iload 4, 2) := by decide +kernel
theorem dX3_seamTold_72 : decode cX3_seamTold 72 = .ok (.iload_n 2, 1) := by decide +kernel
theorem dX3_seamTold_73 : decode cX3_seamTold 73 = .ok (.invokevirtual 46, 3) := by decide +kernel
theorem dX3_seamTold_76 : decode cX3_seamTold 76 = .ok (.ifCond .ne 6, 3) := by decide +kernel
theorem dX3_seamTold_79 : decode cX3_seamTold 79 = .ok (.goto 9, 3) := by decide +kernel
theorem dX3_seamTold_82 : decode cX3_seamTold 82 = .ok (.iload 4, 2) := by decide +kernel
theorem dX3_seamTold_84 : decode cX3_seamTold 84 = .ok (.istore_n 2, 1) := by decide +kernel
theorem dX3_seamTold_85 : decode cX3_seamTold 85 = .ok (.iload 5, 2) := by decide +kernel
theorem dX3_seamTold_87 : decode cX3_seamTold 87 = .ok (.istore_n 3, 1) := by decide +kernel
theorem dX3_seamTold_88 : decode cX3_seamTold 88 = .ok (.iinc 4 1, 3) := by decide +kernel
theorem dX3_seamTold_91 : decode cX3_seamTold 91 = .ok (.goto (-75), 3) := by decide +kernel
theorem dX3_seamTold_94 : decode cX3_seamTold 94 = .ok (.iload_n 1, 1) := by decide +kernel
theorem dX3_seamTold_95 : decode cX3_seamTold 95 = .ok (.ifCond .ne 5, 3) := by decide +kernel
theorem dX3_seamTold_98 : decode cX3_seamTold 98 = .ok (.iload_n 3, 1) := by decide +kernel
theorem dX3_seamTold_99 : decode cX3_seamTold 99 = .ok (.ireturn, 1) := by decide +kernel
theorem dX3_seamTold_100 : decode cX3_seamTold 100 = .ok (.iload_n 1, 1) := by decide +kernel
theorem dX3_seamTold_101 : decode cX3_seamTold 101 = .ok (.iconst 1, 1) := by decide +kernel
theorem dX3_seamTold_102 : decode cX3_seamTold 102 = .ok (.if_icmp .eq 8, 3) := by decide +kernel
theorem dX3_seamTold_105 : decode cX3_seamTold 105 = .ok (.iload_n 2, 1) := by decide +kernel
theorem dX3_seamTold_106 : decode cX3_seamTold 106 = .ok (.iconst (-1), 1) := by decide +kernel
theorem dX3_seamTold_107 : decode cX3_seamTold 107 = .ok (.if_icmp .ne 5, 3) := by decide +kernel
theorem dX3_seamTold_110 : decode cX3_seamTold 110 = .ok (.iload_n 2, 1) := by decide +kernel
theorem dX3_seamTold_111 : decode cX3_seamTold 111 = .ok (.ireturn, 1) := by decide +kernel
theorem dX3_seamTold_112 : decode cX3_seamTold 112 = .ok (.iconst 0, 1) := by decide +kernel
theorem dX3_seamTold_113 : decode cX3_seamTold 113 = .ok (.istore 4, 2) := by decide +kernel
theorem dX3_seamTold_115 : decode cX3_seamTold 115 = .ok (.aload_n 0, 1) := by decide +kernel
theorem dX3_seamTold_116 : decode cX3_seamTold 116 = .ok (.getfield 27, 3) := by decide +kernel
theorem dX3_seamTold_119 : decode cX3_seamTold 119 = .ok (.iload_n 2, 1) := by decide +kernel
theorem dX3_seamTold_120 : decode cX3_seamTold 120 = .ok (.aaload, 1) := by decide +kernel
theorem dX3_seamTold_121 : decode cX3_seamTold 121 = .ok (.iload 4, 2) := by decide +kernel
theorem dX3_seamTold_123 : decode cX3_seamTold 123 = .ok (.iaload, 1) := by decide +kernel
theorem dX3_seamTold_124 : decode cX3_seamTold 124 = .ok (.iload_n 3, 1) := by decide +kernel
theorem dX3_seamTold_125 : decode cX3_seamTold 125 = .ok (.if_icmp .ge 9, 3) := by decide +kernel
theorem dX3_seamTold_128 : decode cX3_seamTold 128 = .ok (.iinc 4 1, 3) := by decide +kernel
theorem dX3_seamTold_131 : decode cX3_seamTold 131 = .ok (.goto (-16), 3) := by decide +kernel
theorem dX3_seamTold_134 : decode cX3_seamTold 134 = .ok (.iload 4, 2) := by decide +kernel
theorem dX3_seamTold_136 : decode cX3_seamTold 136 = .ok (.ireturn, 1) := by decide +kernel
theorem dX3_isSampleAt_0 : decode cX3_isSampleAt 0 = .ok (.aload_n 0, 1) := by decide +kernel
theorem dX3_isSampleAt_1 : decode cX3_isSampleAt 1 = .ok (.getfield 83, 3) := by decide +kernel
theorem dX3_isSampleAt_4 : decode cX3_isSampleAt 4 = .ok (.ifCond .eq 18, 3) := by decide +kernel
theorem dX3_isSampleAt_7 : decode cX3_isSampleAt 7 = .ok (.iload_n 2, 1) := by decide +kernel
theorem dX3_isSampleAt_8 : decode cX3_isSampleAt 8 = .ok (.aload_n 0, 1) := by decide +kernel
theorem dX3_isSampleAt_9 : decode cX3_isSampleAt 9 = .ok (.getfield 83, 3) := by decide +kernel
theorem dX3_isSampleAt_12 : decode cX3_isSampleAt 12 = .ok (.iadd, 1) := by decide +kernel
theorem dX3_isSampleAt_13 : decode cX3_isSampleAt 13 = .ok (.aload_n 0, 1) := by decide +kernel
theorem dX3_isSampleAt_14 : decode cX3_isSampleAt 14 = .ok (.getfield 14, 3) := by decide +kernel
theorem dX3_isSampleAt_17 : decode cX3_isSampleAt 17 = .ok (.iload_n 1, 1) := by decide +kernel
theorem dX3_isSampleAt_18 : decode cX3_isSampleAt 18 = .ok (.iaload, 1) := by decide +kernel
theorem dX3_isSampleAt_19 : decode cX3_isSampleAt 19 = .ok (.if_icmp .le 5, 3) := by decide +kernel
theorem dX3_isSampleAt_22 : decode cX3_isSampleAt 22 = .ok (.iconst 0, 1) := by decide +kernel
theorem dX3_isSampleAt_23 : decode cX3_isSampleAt 23 = .ok (.ireturn, 1) := by decide +kernel
theorem dX3_isSampleAt_24 : decode cX3_isSampleAt 24 = .ok (.iconst 0, 1) := by decide +kernel
theorem dX3_isSampleAt_25 : decode cX3_isSampleAt 25 = .ok (.istore_n 3, 1) := by decide +kernel
theorem dX3_isSampleAt_26 : decode cX3_isSampleAt 26 = .ok (.iload_n 3, 1) := by decide +kernel
theorem dX3_isSampleAt_27 : decode cX3_isSampleAt 27 = .ok (.aload_n 0, 1) := by decide +kernel
theorem dX3_isSampleAt_28 : decode cX3_isSampleAt 28 = .ok (.getfield 83, 3) := by decide +kernel
theorem dX3_isSampleAt_31 : decode cX3_isSampleAt 31 = .ok (.if_icmp .ge 30, 3) := by decide +kernel
theorem dX3_isSampleAt_34 : decode cX3_isSampleAt 34 = .ok (.aload_n 0, 1) := by decide +kernel
theorem dX3_isSampleAt_35 : decode cX3_isSampleAt 35 = .ok (.getfield 11, 3) := by decide +kernel
theorem dX3_isSampleAt_38 : decode cX3_isSampleAt 38 = .ok (.iload_n 1, 1) := by decide +kernel
theorem dX3_isSampleAt_39 : decode cX3_isSampleAt 39 = .ok (.aaload, 1) := by decide +kernel
theorem dX3_isSampleAt_40 : decode cX3_isSampleAt 40 = .ok (.iload_n 2, 1) := by decide +kernel
theorem dX3_isSampleAt_41 : decode cX3_isSampleAt 41 = .ok (.iload_n 3, 1) := by decide +kernel
theorem dX3_isSampleAt_42 : decode cX3_isSampleAt 42 = .ok (.iadd, 1) := by decide +kernel
theorem dX3_isSampleAt_43 : decode cX3_isSampleAt 43 = .ok (.iaload, 1) := by decide +kernel
theorem dX3_isSampleAt_44 : decode cX3_isSampleAt 44 = .ok (.aload_n 0, 1) := by decide +kernel
theorem dX3_isSampleAt_45 : decode cX3_isSampleAt 45 = .ok (.getfield 18, 3) := by decide +kernel
theorem dX3_isSampleAt_48 : decode cX3_isSampleAt 48 = .ok (.iload_n 3, 1) := by decide +kernel
theorem dX3_isSampleAt_49 : decode cX3_isSampleAt 49 = .ok (.iaload, 1) := by decide +kernel
theorem dX3_isSampleAt_50 : decode cX3_isSampleAt 50 = .ok (.if_icmp .eq 5, 3) := by decide +kernel
theorem dX3_isSampleAt_53 : decode cX3_isSampleAt 53 = .ok (.iconst 0, 1) := by decide +kernel
theorem dX3_isSampleAt_54 : decode cX3_isSampleAt 54 = .ok (.ireturn, 1) := by decide +kernel
theorem dX3_isSampleAt_55 : decode cX3_isSampleAt 55 = .ok (.iinc 3 1, 3) := by decide +kernel
theorem dX3_isSampleAt_58 : decode cX3_isSampleAt 58 = .ok (.goto (-32), 3) := by decide +kernel
theorem dX3_isSampleAt_61 : decode cX3_isSampleAt 61 = .ok (.iconst 1, 1) := by decide +kernel
theorem dX3_isSampleAt_62 : decode cX3_isSampleAt 62 = .ok (.ireturn, 1) := by decide +kernel
set_option maxRecDepth 20000 in
theorem ggX3_foundIn_X3_isSampleAt : GoodIn wsX3_foundIn wsX3_isSampleAt := goodIn_r _ [6, 7, 1, 8, 9, 10, 11, 12, 13, 14, 15, 16, 17] (by decide +kernel) (by decide +kernel)
set_option maxRecDepth 20000 in
theorem gX3_foundIn_X3_isSampleAt : GoodIn wsX3_foundIn (wsV RX3 86 RX3 yX3_isSampleAt wsX3_isSampleAt) := goodIn_app (goodIn_of _ (by decide +kernel)) ggX3_foundIn_X3_isSampleAt
theorem dX3_foundIn_0 : decode cX3_foundIn 0 = .ok (.iconst 0, 1) := by decide +kernel
theorem dX3_foundIn_1 : decode cX3_foundIn 1 = .ok (.istore_n 2, 1) := by decide +kernel
theorem dX3_foundIn_2 : decode cX3_foundIn 2 = .ok (.iconst 0, 1) := by decide +kernel
theorem dX3_foundIn_3 : decode cX3_foundIn 3 = .ok (.istore_n 3, 1) := by decide +kernel
theorem dX3_foundIn_4 : decode cX3_foundIn 4 = .ok (.iload_n 3, 1) := by decide +kernel
theorem dX3_foundIn_5 : decode cX3_foundIn 5 = .ok (.aload_n 0, 1) := by decide +kernel
theorem dX3_foundIn_6 : decode cX3_foundIn 6 = .ok (.getfield 14, 3) := by decide +kernel
theorem dX3_foundIn_9 : decode cX3_foundIn 9 = .ok (.iload_n 1, 1) := by decide +kernel
theorem dX3_foundIn_10 : decode cX3_foundIn 10 = .ok (.iaload, 1) := by decide +kernel
theorem dX3_foundIn_11 : decode cX3_foundIn 11 = .ok (.if_icmp .ge 26, 3) := by decide +kernel
theorem dX3_foundIn_14 : decode cX3_foundIn 14 = .ok (.iload_n 2, 1) := by decide +kernel
theorem dX3_foundIn_15 : decode cX3_foundIn 15 = .ok (.aload_n 0, 1) := by decide +kernel
theorem dX3_foundIn_16 : decode cX3_foundIn 16 = .ok (.iload_n 1, 1) := by decide +kernel
theorem dX3_foundIn_17 : decode cX3_foundIn 17 = .ok (.iload_n 3, 1) := by decide +kernel
theorem dX3_foundIn_18 : decode cX3_foundIn 18 = .ok (.invokevirtual 86, 3) := by decide +kernel
theorem dX3_foundIn_21 : decode cX3_foundIn 21 = .ok (.ifCond .eq 7, 3) := by decide +kernel
theorem dX3_foundIn_24 : decode cX3_foundIn 24 = .ok (.iconst 1, 1) := by decide +kernel
theorem dX3_foundIn_25 : decode cX3_foundIn 25 = .ok (.goto 4, 3) := by decide +kernel
theorem dX3_foundIn_28 : decode cX3_foundIn 28 = .ok (.iconst 0, 1) := by decide +kernel
theorem dX3_foundIn_29 : decode cX3_foundIn 29 = .ok (.iadd, 1) := by decide +kernel
theorem dX3_foundIn_30 : decode cX3_foundIn 30 = .ok (.istore_n 2, 1) := by decide +kernel
theorem dX3_foundIn_31 : decode cX3_foundIn 31 = .ok (.iinc 3 1, 3) := by decide +kernel
theorem dX3_foundIn_34 : decode cX3_foundIn 34 = .ok (.goto (-30), 3) := by decide +kernel
theorem dX3_foundIn_37 : decode cX3_foundIn 37 = .ok (.iload_n 2, 1) := by decide +kernel
theorem dX3_foundIn_38 : decode cX3_foundIn 38 = .ok (.ireturn, 1) := by decide +kernel
theorem dX3_isPeriod_0 : decode cX3_isPeriod 0 = .ok (.iload_n 2, 1) := by decide +kernel
theorem dX3_isPeriod_1 : decode cX3_isPeriod 1 = .ok (.istore_n 3, 1) := by decide +kernel
theorem dX3_isPeriod_2 : decode cX3_isPeriod 2 = .ok (.iload_n 3, 1) := by decide +kernel
theorem dX3_isPeriod_3 : decode cX3_isPeriod 3 = .ok (.aload_n 0, 1) := by decide +kernel
theorem dX3_isPeriod_4 : decode cX3_isPeriod 4 = .ok (.getfield 14, 3) := by decide +kernel
theorem dX3_isPeriod_7 : decode cX3_isPeriod 7 = .ok (.iload_n 1, 1) := by decide +kernel
theorem dX3_isPeriod_8 : decode cX3_isPeriod 8 = .ok (.iaload, 1) := by decide +kernel
theorem dX3_isPeriod_9 : decode cX3_isPeriod 9 = .ok (.if_icmp .ge 32, 3) := by decide +kernel
theorem dX3_isPeriod_12 : decode cX3_isPeriod 12 = .ok (.aload_n 0, 1) := by decide +kernel
theorem dX3_isPeriod_13 : decode cX3_isPeriod 13 = .ok (.getfield 11, 3) := by decide +kernel
theorem dX3_isPeriod_16 : decode cX3_isPeriod 16 = .ok (.iload_n 1, 1) := by decide +kernel
theorem dX3_isPeriod_17 : decode cX3_isPeriod 17 = .ok (.aaload, 1) := by decide +kernel
theorem dX3_isPeriod_18 : decode cX3_isPeriod 18 = .ok (.iload_n 3, 1) := by decide +kernel
theorem dX3_isPeriod_19 : decode cX3_isPeriod 19 = .ok (.iaload, 1) := by decide +kernel
theorem dX3_isPeriod_20 : decode cX3_isPeriod 20 = .ok (.aload_n 0, 1) := by decide +kernel
theorem dX3_isPeriod_21 : decode cX3_isPeriod 21 = .ok (.getfield 11, 3) := by decide +kernel
theorem dX3_isPeriod_24 : decode cX3_isPeriod 24 = .ok (.iload_n 1, 1) := by decide +kernel
theorem dX3_isPeriod_25 : decode cX3_isPeriod 25 = .ok (.aaload, 1) := by decide +kernel
theorem dX3_isPeriod_26 : decode cX3_isPeriod 26 = .ok (.iload_n 3, 1) := by decide +kernel
theorem dX3_isPeriod_27 : decode cX3_isPeriod 27 = .ok (.iload_n 2, 1) := by decide +kernel
theorem dX3_isPeriod_28 : decode cX3_isPeriod 28 = .ok (.isub, 1) := by decide +kernel
theorem dX3_isPeriod_29 : decode cX3_isPeriod 29 = .ok (.iaload, 1) := by decide +kernel
theorem dX3_isPeriod_30 : decode cX3_isPeriod 30 = .ok (.if_icmp .eq 5, 3) := by decide +kernel
theorem dX3_isPeriod_33 : decode cX3_isPeriod 33 = .ok (.iconst 0, 1) := by decide +kernel
theorem dX3_isPeriod_34 : decode cX3_isPeriod 34 = .ok (.ireturn, 1) := by decide +kernel
theorem dX3_isPeriod_35 : decode cX3_isPeriod 35 = .ok (.iinc 3 1, 3) := by decide +kernel
theorem dX3_isPeriod_38 : decode cX3_isPeriod 38 = .ok (.goto (-36), 3) := by decide +kernel
theorem dX3_isPeriod_41 : decode cX3_isPeriod 41 = .ok (.iconst 1, 1) := by decide +kernel
theorem dX3_isPeriod_42 : decode cX3_isPeriod 42 = .ok (.ireturn, 1) := by decide +kernel
set_option maxRecDepth 20000 in
theorem ggX3_periodOf_X3_isPeriod : GoodIn wsX3_periodOf wsX3_isPeriod := goodIn_r _ [10, 1, 11, 12, 13, 14, 15, 16, 17, 18, 19] (by decide +kernel) (by decide +kernel)
set_option maxRecDepth 20000 in
theorem gX3_periodOf_X3_isPeriod : GoodIn wsX3_periodOf (wsV RX3 93 RX3 yX3_isPeriod wsX3_isPeriod) := goodIn_app (goodIn_of _ (by decide +kernel)) ggX3_periodOf_X3_isPeriod
theorem dX3_periodOf_0 : decode cX3_periodOf 0 = .ok (.iconst 1, 1) := by decide +kernel
theorem dX3_periodOf_1 : decode cX3_periodOf 1 = .ok (.aload_n 0, 1) := by decide +kernel
theorem dX3_periodOf_2 : decode cX3_periodOf 2 = .ok (.getfield 14, 3) := by decide +kernel
theorem dX3_periodOf_5 : decode cX3_periodOf 5 = .ok (.iload_n 1, 1) := by decide +kernel
theorem dX3_periodOf_6 : decode cX3_periodOf 6 = .ok (.iaload, 1) := by decide +kernel
theorem dX3_periodOf_7 : decode cX3_periodOf 7 = .ok (.invokestatic 90, 3) := by decide +kernel
theorem dX3_periodOf_10 : decode cX3_periodOf 10 = .ok (.istore_n 2, 1) := by decide +kernel
theorem dX3_periodOf_11 : decode cX3_periodOf 11 = .ok (.aload_n 0, 1) := by decide +kernel
theorem dX3_periodOf_12 : decode cX3_periodOf 12 = .ok (.iload_n 1, 1) := by decide +kernel
theorem dX3_periodOf_13 : decode cX3_periodOf 13 = .ok (.iload_n 2, 1) := by decide +kernel
theorem dX3_periodOf_14 : decode cX3_periodOf 14 = .ok (.invokevirtual 93, 3) := by decide +kernel
theorem dX3_periodOf_17 : decode cX3_periodOf 17 = .ok (.ifCond .ne 9, 3) := by decide +kernel
theorem dX3_periodOf_20 : decode cX3_periodOf 20 = .ok (.iinc 2 1, 3) := by decide +kernel
theorem dX3_periodOf_23 : decode cX3_periodOf 23 = .ok (.goto (-12), 3) := by decide +kernel
theorem dX3_periodOf_26 : decode cX3_periodOf 26 = .ok (.iload_n 2, 1) := by decide +kernel
theorem dX3_periodOf_27 : decode cX3_periodOf 27 = .ok (.ireturn, 1) := by decide +kernel
theorem dX3_isLessAround_0 : decode cX3_isLessAround 0 = .ok (.aload_n 0, 1) := by decide +kernel
theorem dX3_isLessAround_1 : decode cX3_isLessAround 1 = .ok (.getfield 14, 3) := by decide +kernel
theorem dX3_isLessAround_4 : decode cX3_isLessAround 4 = .ok (.iload_n 1, 1) := by decide +kernel
theorem dX3_isLessAround_5 : decode cX3_isLessAround 5 = .ok (.iaload, 1) := by decide +kernel
theorem dX3_isLessAround_6 : decode cX3_isLessAround 6 = .ok (.istore 4, 2) := by decide +kernel
theorem dX3_isLessAround_8 : decode cX3_isLessAround 8 = .ok (.iconst 0, 1) := by decide +kernel
theorem dX3_isLessAround_9 : decode cX3_isLessAround 9 = .ok (.istore 5, 2) := by decide +kernel
theorem dX3_isLessAround_11 : decode cX3_isLessAround 11 = .ok (.iload 5, 2) := by decide +kernel
theorem dX3_isLessAround_13 : decode cX3_isLessAround 13 = .ok (.iload 4, 2) := by decide +kernel
theorem dX3_isLessAround_15 : decode cX3_isLessAround 15 = .ok (.if_icmp .ge 61, 3) := by decide +kernel
theorem dX3_isLessAround_18 : decode cX3_isLessAround 18 = .ok (.aload_n 0, 1) := by decide +kernel
theorem dX3_isLessAround_19 : decode cX3_isLessAround 19 = .ok (.getfield 11, 3) := by decide +kernel
theorem dX3_isLessAround_22 : decode cX3_isLessAround 22 = .ok (.iload_n 1, 1) := by decide +kernel
theorem dX3_isLessAround_23 : decode cX3_isLessAround 23 = .ok (.aaload, 1) := by decide +kernel
theorem dX3_isLessAround_24 : decode cX3_isLessAround 24 = .ok (.iload_n 2, 1) := by decide +kernel
theorem dX3_isLessAround_25 : decode cX3_isLessAround 25 = .ok (.iload 5, 2) := by decide +kernel
theorem dX3_isLessAround_27 : decode cX3_isLessAround 27 = .ok (.iadd, 1) := by decide +kernel
theorem dX3_isLessAround_28 : decode cX3_isLessAround 28 = .ok (.iload 4, 2) := by decide +kernel
theorem dX3_isLessAround_30 : decode cX3_isLessAround 30 = .ok (.irem, 1) := by decide +kernel
theorem dX3_isLessAround_31 : decode cX3_isLessAround 31 = .ok (.iaload, 1) := by decide +kernel
theorem dX3_isLessAround_32 : decode cX3_isLessAround 32 = .ok (.istore 6, 2) := by decide +kernel
theorem dX3_isLessAround_34 : decode cX3_isLessAround 34 = .ok (.aload_n 0, 1) := by decide +kernel
theorem dX3_isLessAround_35 : decode cX3_isLessAround 35 = .ok (.getfield 11, 3) := by decide +kernel
theorem dX3_isLessAround_38 : decode cX3_isLessAround 38 = .ok (.iload_n 1, 1) := by decide +kernel
theorem dX3_isLessAround_39 : decode cX3_isLessAround 39 = .ok (.aaload, 1) := by decide +kernel
theorem dX3_isLessAround_40 : decode cX3_isLessAround 40 = .ok (.iload_n 3, 1) := by decide +kernel
theorem dX3_isLessAround_41 : decode cX3_isLessAround 41 = .ok (.iload 5, 2) := by decide +kernel
theorem dX3_isLessAround_43 : decode cX3_isLessAround 43 = .ok (.iadd, 1) := by decide +kernel
theorem dX3_isLessAround_44 : decode cX3_isLessAround 44 = .ok (.iload 4, 2) := by decide +kernel
theorem dX3_isLessAround_46 : decode cX3_isLessAround 46 = .ok (.irem, 1) := by decide +kernel
theorem dX3_isLessAround_47 : decode cX3_isLessAround 47 = .ok (.iaload, 1) := by decide +kernel
theorem dX3_isLessAround_48 : decode cX3_isLessAround 48 = .ok (.istore 7, 2) := by decide +kernel
theorem dX3_isLessAround_50 : decode cX3_isLessAround 50 = .ok (.iload 6, 2) := by decide +kernel
theorem dX3_isLessAround_52 : decode cX3_isLessAround 52 = .ok (.iload 7, 2) := by decide +kernel
theorem dX3_isLessAround_54 : decode cX3_isLessAround 54 = .ok (.if_icmp .eq 16, 3) := by decide +kernel
theorem dX3_isLessAround_57 : decode cX3_isLessAround 57 = .ok (.iload 6, 2) := by decide +kernel
theorem dX3_isLessAround_59 : decode cX3_isLessAround 59 = .ok (.iload 7, 2) := by decide +kernel
theorem dX3_isLessAround_61 : decode cX3_isLessAround 61 = .ok (.if_icmp .ge 7, 3) := by decide +kernel
theorem dX3_isLessAround_64 : decode cX3_isLessAround 64 = .ok (.iconst 1, 1) := by decide +kernel
theorem dX3_isLessAround_65 : decode cX3_isLessAround 65 = .ok (.goto 4, 3) := by decide +kernel
theorem dX3_isLessAround_68 : decode cX3_isLessAround 68 = .ok (.iconst 0, 1) := by decide +kernel
theorem dX3_isLessAround_69 : decode cX3_isLessAround 69 = .ok (.ireturn, 1) := by decide +kernel
theorem dX3_isLessAround_70 : decode cX3_isLessAround 70 = .ok (.iinc 5 1, 3) := by decide +kernel
theorem dX3_isLessAround_73 : decode cX3_isLessAround 73 = .ok (.goto (-62), 3) := by decide +kernel
theorem dX3_isLessAround_76 : decode cX3_isLessAround 76 = .ok (.iconst 0, 1) := by decide +kernel
theorem dX3_isLessAround_77 : decode cX3_isLessAround 77 = .ok (.ireturn, 1) := by decide +kernel
set_option maxRecDepth 20000 in
theorem ggX3_turnedOf_X3_isLessAround : GoodIn wsX3_turnedOf wsX3_isLessAround := goodIn_r _ [6, 1, 7, 8, 9, 10, 11, 12, 13, 14, 15] (by decide +kernel) (by decide +kernel)
set_option maxRecDepth 20000 in
theorem gX3_turnedOf_X3_isLessAround : GoodIn wsX3_turnedOf (wsV RX3 96 RX3 yX3_isLessAround wsX3_isLessAround) := goodIn_app (goodIn_of _ (by decide +kernel)) ggX3_turnedOf_X3_isLessAround
theorem dX3_turnedOf_0 : decode cX3_turnedOf 0 = .ok (.aload_n 0, 1) := by decide +kernel
theorem dX3_turnedOf_1 : decode cX3_turnedOf 1 = .ok (.getfield 14, 3) := by decide +kernel
theorem dX3_turnedOf_4 : decode cX3_turnedOf 4 = .ok (.iload_n 1, 1) := by decide +kernel
theorem dX3_turnedOf_5 : decode cX3_turnedOf 5 = .ok (.iaload, 1) := by decide +kernel
theorem dX3_turnedOf_6 : decode cX3_turnedOf 6 = .ok (.ifCond .ne 7, 3) := by decide +kernel
theorem dX3_turnedOf_9 : decode cX3_turnedOf 9 = .ok (.iconst (-1), 1) := by decide +kernel
theorem dX3_turnedOf_10 : decode cX3_turnedOf 10 = .ok (.goto 4, 3) := by decide +kernel
theorem dX3_turnedOf_13 : decode cX3_turnedOf 13 = .ok (.iconst 0, 1) := by decide +kernel
theorem dX3_turnedOf_14 : decode cX3_turnedOf 14 = .ok (.istore_n 2, 1) := by decide +kernel
theorem dX3_turnedOf_15 : decode cX3_turnedOf 15 = .ok (.iconst 1, 1) := by decide +kernel
theorem dX3_turnedOf_16 : decode cX3_turnedOf 16 = .ok (.istore_n 3, 1) := by decide +kernel
theorem dX3_turnedOf_17 : decode cX3_turnedOf 17 = .ok (.iload_n 3, 1) := by decide +kernel
theorem dX3_turnedOf_18 : decode cX3_turnedOf 18 = .ok (.aload_n 0, 1) := by decide +kernel
theorem dX3_turnedOf_19 : decode cX3_turnedOf 19 = .ok (.getfield 14, 3) := by decide +kernel
theorem dX3_turnedOf_22 : decode cX3_turnedOf 22 = .ok (.iload_n 1, 1) := by decide +kernel
theorem dX3_turnedOf_23 : decode cX3_turnedOf 23 = .ok (.iaload, 1) := by decide +kernel
theorem dX3_turnedOf_24 : decode cX3_turnedOf 24 = .ok (.if_icmp .ge 21, 3) := by decide +kernel
theorem dX3_turnedOf_27 : decode cX3_turnedOf 27 = .ok (.aload_n 0, 1) := by decide +kernel
theorem dX3_turnedOf_28 : decode cX3_turnedOf 28 = .ok (.iload_n 1, 1) := by decide +kernel
theorem dX3_turnedOf_29 : decode cX3_turnedOf 29 = .ok (.iload_n 3, 1) := by decide +kernel
theorem dX3_turnedOf_30 : decode cX3_turnedOf 30 = .ok (.iload_n 2, 1) := by decide +kernel
theorem dX3_turnedOf_31 : decode cX3_turnedOf 31 = .ok (.invokevirtual 96, 3) := by decide +kernel
theorem dX3_turnedOf_34 : decode cX3_turnedOf 34 = .ok (.ifCond .eq 5, 3) := by decide +kernel
theorem dX3_turnedOf_37 : decode cX3_turnedOf 37 = .ok (.iload_n 3, 1) := by decide +kernel
theorem dX3_turnedOf_38 : decode cX3_turnedOf 38 = .ok (.istore_n 2, 1) := by decide +kernel
theorem dX3_turnedOf_39 : decode cX3_turnedOf 39 = .ok (.iinc 3 1, 3) := by decide +kernel
theorem dX3_turnedOf_42 : decode cX3_turnedOf 42 = .ok (.goto (-25), 3) := by decide +kernel
theorem dX3_turnedOf_45 : decode cX3_turnedOf 45 = .ok (.iload_n 2, 1) := by decide +kernel
theorem dX3_turnedOf_46 : decode cX3_turnedOf 46 = .ok (.ireturn, 1) := by decide +kernel
theorem dX3_more_0 : decode cX3_more 0 = .ok (.aload_n 0, 1) := by decide +kernel
theorem dX3_more_1 : decode cX3_more 1 = .ok (.getfield 14, 3) := by decide +kernel
theorem dX3_more_4 : decode cX3_more 4 = .ok (.iload_n 1, 1) := by decide +kernel
theorem dX3_more_5 : decode cX3_more 5 = .ok (.iaload, 1) := by decide +kernel
theorem dX3_more_6 : decode cX3_more 6 = .ok (.istore_n 3, 1) := by decide +kernel
theorem dX3_more_7 : decode cX3_more 7 = .ok (.iconst 0, 1) := by decide +kernel
theorem dX3_more_8 : decode cX3_more 8 = .ok (.istore 4, 2) := by decide +kernel
theorem dX3_more_10 : decode cX3_more 10 = .ok (.iconst 0, 1) := by decide +kernel
theorem dX3_more_11 : decode cX3_more 11 = .ok (.istore 5, 2) := by decide +kernel
theorem dX3_more_13 : decode cX3_more 13 = .ok (.iload 5, 2) := by decide +kernel
theorem dX3_more_15 : decode cX3_more 15 = .ok (.iload_n 3, 1) := by decide +kernel
theorem dX3_more_16 : decode cX3_more 16 = .ok (.if_icmp .ge 77, 3) := by decide +kernel
theorem dX3_more_19 : decode cX3_more 19 = .ok (.aload_n 0, 1) := by decide +kernel
theorem dX3_more_20 : decode cX3_more 20 = .ok (.getfield 11, 3) := by decide +kernel
theorem dX3_more_23 : decode cX3_more 23 = .ok (.iload_n 1, 1) := by decide +kernel
theorem dX3_more_24 : decode cX3_more 24 = .ok (.aaload, 1) := by decide +kernel
theorem dX3_more_25 : decode cX3_more 25 = .ok (.iload 5, 2) := by decide +kernel
theorem dX3_more_27 : decode cX3_more 27 = .ok (.iaload, 1) := by decide +kernel
theorem dX3_more_28 : decode cX3_more 28 = .ok (.iload_n 2, 1) := by decide +kernel
theorem dX3_more_29 : decode cX3_more 29 = .ok (.if_icmp .eq 6, 3) := by decide +kernel
theorem dX3_more_32 : decode cX3_more 32 = .ok (.goto 55, 3) := by decide +kernel
theorem dX3_more_35 : decode cX3_more 35 = .ok (.iconst 1, 1) := by decide +kernel
theorem dX3_more_36 : decode cX3_more 36 = .ok (.istore 6, 2) := by decide +kernel
theorem dX3_more_38 : decode cX3_more 38 = .ok (.iload 5, 2) := by decide +kernel
theorem dX3_more_40 : decode cX3_more 40 = .ok (.iload 6, 2) := by decide +kernel
theorem dX3_more_42 : decode cX3_more 42 = .ok (.isub, 1) := by decide +kernel
theorem dX3_more_43 : decode cX3_more 43 = .ok (.ifCond .lt 35, 3) := by decide +kernel
theorem dX3_more_46 : decode cX3_more 46 = .ok (.aload_n 0, 1) := by decide +kernel
theorem dX3_more_47 : decode cX3_more 47 = .ok (.getfield 11, 3) := by decide +kernel
theorem dX3_more_50 : decode cX3_more 50 = .ok (.iload_n 1, 1) := by decide +kernel
theorem dX3_more_51 : decode cX3_more 51 = .ok (.aaload, 1) := by decide +kernel
theorem dX3_more_52 : decode cX3_more 52 = .ok (.iload 5, 2) := by decide +kernel
theorem dX3_more_54 : decode cX3_more 54 = .ok (.iload 6, 2) := by decide +kernel
theorem dX3_more_56 : decode cX3_more 56 = .ok (.isub, 1) := by decide +kernel
theorem dX3_more_57 : decode cX3_more 57 = .ok (.iaload, 1) := by decide +kernel
theorem dX3_more_58 : decode cX3_more 58 = .ok (.aload_n 0, 1) := by decide +kernel
theorem dX3_more_59 : decode cX3_more 59 = .ok (.getfield 11, 3) := by decide +kernel
theorem dX3_more_62 : decode cX3_more 62 = .ok (.iload_n 1, 1) := by decide +kernel
theorem dX3_more_63 : decode cX3_more 63 = .ok (.aaload, 1) := by decide +kernel
theorem dX3_more_64 : decode cX3_more 64 = .ok (.iload_n 3, 1) := by decide +kernel
theorem dX3_more_65 : decode cX3_more 65 = .ok (.iload 6, 2) := by decide +kernel
theorem dX3_more_67 : decode cX3_more 67 = .ok (.isub, 1) := by decide +kernel
theorem dX3_more_68 : decode cX3_more 68 = .ok (.iaload, 1) := by decide +kernel
theorem dX3_more_69 : decode cX3_more 69 = .ok (.if_icmp .ne 9, 3) := by decide +kernel
theorem dX3_more_72 : decode cX3_more 72 = .ok (.iinc 6 1, 3) := by decide +kernel
theorem dX3_more_75 : decode cX3_more 75 = .ok (.goto (-37), 3) := by decide +kernel
theorem dX3_more_78 : decode cX3_more 78 = .ok (.iload 4, 2) := by decide +kernel
theorem dX3_more_80 : decode cX3_more 80 = .ok (.iload 6, 2) := by decide +kernel
theorem dX3_more_82 : decode cX3_more 82 = .ok (.invokestatic 61, 3) := by decide +kernel
theorem dX3_more_85 : decode cX3_more 85 = .ok (.istore 4, 2) := by decide +kernel
theorem dX3_more_87 : decode cX3_more 87 = .ok (.iinc 5 1, 3) := by decide +kernel
theorem dX3_more_90 : decode cX3_more 90 = .ok (.goto (-77), 3) := by decide +kernel
theorem dX3_more_93 : decode cX3_more 93 = .ok (.iload_n 3, 1) := by decide +kernel
theorem dX3_more_94 : decode cX3_more 94 = .ok (.iconst 1, 1) := by decide +kernel
theorem dX3_more_95 : decode cX3_more 95 = .ok (.iadd, 1) := by decide +kernel
theorem dX3_more_96 : decode cX3_more 96 = .ok (.iload 4, 2) := by decide +kernel
theorem dX3_more_98 : decode cX3_more 98 = .ok (.isub, 1) := by decide +kernel
theorem dX3_more_99 : decode cX3_more 99 = .ok (.ireturn, 1) := by decide +kernel
set_option maxRecDepth 20000 in
theorem ggX3_sew_X3_isHem : GoodIn wsX3_sew wsX3_isHem := goodIn_r _ [7, 8, 9, 6, 10] (by decide +kernel) (by decide +kernel)
set_option maxRecDepth 20000 in
theorem gX3_sew_X3_isHem : GoodIn wsX3_sew (va_wsS RX3 38 yX3_isHem wsX3_isHem) := goodIn_app (goodIn_of _ (by decide +kernel)) ggX3_sew_X3_isHem
set_option maxRecDepth 20000 in
theorem ggX3_sew_X3_no : GoodIn wsX3_sew wsX3_no := goodIn_r _ [14, 1, 18, 19, 20, 21, 22, 23, 24, 25] (by decide +kernel) (by decide +kernel)
set_option maxRecDepth 20000 in
theorem gX3_sew_X3_no : GoodIn wsX3_sew (wsV RX3 99 RX3 yX3_no wsX3_no) := goodIn_app (goodIn_of _ (by decide +kernel)) ggX3_sew_X3_no
set_option maxRecDepth 20000 in
theorem ggX3_sew_X3_isStitch : GoodIn wsX3_sew wsX3_isStitch := goodIn_r _ [17, 8, 9, 6, 10] (by decide +kernel) (by decide +kernel)
set_option maxRecDepth 20000 in
theorem gX3_sew_X3_isStitch : GoodIn wsX3_sew (va_wsS RX3 102 yX3_isStitch wsX3_isStitch) := goodIn_app (goodIn_of _ (by decide +kernel)) ggX3_sew_X3_isStitch
theorem dX3_sew_0 : decode cX3_sew 0 = .ok (.aload_n 0, 1) := by decide +kernel
theorem dX3_sew_1 : decode cX3_sew 1 = .ok (.iconst 0, 1) := by decide +kernel
theorem dX3_sew_2 : decode cX3_sew 2 = .ok (.putfield 30, 3) := by decide +kernel
theorem dX3_sew_5 : decode cX3_sew 5 = .ok (.iload_n 1, 1) := by decide +kernel
theorem dX3_sew_6 : decode cX3_sew 6 = .ok (.invokestatic 38, 3) := by decide +kernel
theorem dX3_sew_9 : decode cX3_sew 9 = .ok (.ifCond .ne 9, 3) := by decide +kernel
theorem dX3_sew_12 : decode cX3_sew 12 = .ok (.aload_n 0, 1) := by decide +kernel
theorem dX3_sew_13 : decode cX3_sew 13 = .ok (.iconst 1, 1) := by decide +kernel
theorem dX3_sew_14 : decode cX3_sew 14 = .ok (.invokevirtual 99, 3) := by decide +kernel
theorem dX3_sew_17 : decode cX3_sew 17 = .ok (.ireturn, 1) := by decide +kernel
theorem dX3_sew_18 : decode cX3_sew 18 = .ok (.iload_n 2, 1) := by decide +kernel
theorem dX3_sew_19 : decode cX3_sew 19 = .ok (.invokestatic 102, 3) := by decide +kernel
theorem dX3_sew_22 : decode cX3_sew 22 = .ok (.ifCond .ne 9, 3) := by decide +kernel
theorem dX3_sew_25 : decode cX3_sew 25 = .ok (.aload_n 0, 1) := by decide +kernel
theorem dX3_sew_26 : decode cX3_sew 26 = .ok (.iconst 2, 1) := by decide +kernel
theorem dX3_sew_27 : decode cX3_sew 27 = .ok (.invokevirtual 99, 3) := by decide +kernel
theorem dX3_sew_30 : decode cX3_sew 30 = .ok (.ireturn, 1) := by decide +kernel
theorem dX3_sew_31 : decode cX3_sew 31 = .ok (.aload_n 0, 1) := by decide +kernel
theorem dX3_sew_32 : decode cX3_sew 32 = .ok (.getfield 14, 3) := by decide +kernel
theorem dX3_sew_35 : decode cX3_sew 35 = .ok (.iload_n 1, 1) := by decide +kernel
theorem dX3_sew_36 : decode cX3_sew 36 = .ok (.iaload, 1) := by decide +kernel
theorem dX3_sew_37 : decode cX3_sew 37 = .ok (.bipush 40, 2) := by decide +kernel
theorem dX3_sew_39 : decode cX3_sew 39 = .ok (.if_icmp .ne 9, 3) := by decide +kernel
theorem dX3_sew_42 : decode cX3_sew 42 = .ok (.aload_n 0, 1) := by decide +kernel
theorem dX3_sew_43 : decode cX3_sew 43 = .ok (.iconst 3, 1) := by decide +kernel
theorem dX3_sew_44 : decode cX3_sew 44 = .ok (.invokevirtual 99, 3) := by decide +kernel
theorem dX3_sew_47 : decode cX3_sew 47 = .ok (.ireturn, 1) := by decide +kernel
theorem dX3_sew_48 : decode cX3_sew 48 = .ok (.aload_n 0, 1) := by decide +kernel
theorem dX3_sew_49 : decode cX3_sew 49 = .ok (.getfield 11, 3) := by decide +kernel
theorem dX3_sew_52 : decode cX3_sew 52 = .ok (.iload_n 1, 1) := by decide +kernel
theorem dX3_sew_53 : decode cX3_sew 53 = .ok (.aaload, 1) := by decide +kernel
theorem dX3_sew_54 : decode cX3_sew 54 = .ok (.aload_n 0, 1) := by decide +kernel
theorem dX3_sew_55 : decode cX3_sew 55 = .ok (.getfield 14, 3) := by decide +kernel
theorem dX3_sew_58 : decode cX3_sew 58 = .ok (.iload_n 1, 1) := by decide +kernel
theorem dX3_sew_59 : decode cX3_sew 59 = .ok (.iaload, 1) := by decide +kernel
theorem dX3_sew_60 : decode cX3_sew 60 = .ok (.iload_n 2, 1) := by decide +kernel
theorem dX3_sew_61 : decode cX3_sew 61 = .ok (.iastore, 1) := by decide +kernel
theorem dX3_sew_62 : decode cX3_sew 62 = .ok (.aload_n 0, 1) := by decide +kernel
theorem dX3_sew_63 : decode cX3_sew 63 = .ok (.getfield 14, 3) := by decide +kernel
theorem dX3_sew_66 : decode cX3_sew 66 = .ok (.iload_n 1, 1) := by decide +kernel
theorem dX3_sew_67 : decode cX3_sew 67 = .ok (.dup2, 1) := by decide +kernel
theorem dX3_sew_68 : decode cX3_sew 68 = .ok (.iaload, 1) := by decide +kernel
theorem dX3_sew_69 : decode cX3_sew 69 = .ok (.iconst 1, 1) := by decide +kernel
theorem dX3_sew_70 : decode cX3_sew 70 = .ok (.iadd, 1) := by decide +kernel
theorem dX3_sew_71 : decode cX3_sew 71 = .ok (.iastore, 1) := by decide +kernel
theorem dX3_sew_72 : decode cX3_sew 72 = .ok (.aload_n 0, 1) := by decide +kernel
theorem dX3_sew_73 : decode cX3_sew 73 = .ok (.getfield 14, 3) := by decide +kernel
theorem dX3_sew_76 : decode cX3_sew 76 = .ok (.iload_n 1, 1) := by decide +kernel
theorem dX3_sew_77 : decode cX3_sew 77 = .ok (.iaload, 1) := by decide +kernel
theorem dX3_sew_78 : decode cX3_sew 78 = .ok (.ireturn, 1) := by decide +kernel
set_option maxRecDepth 20000 in
theorem ggX3_again_X3_isHem : GoodIn wsX3_again wsX3_isHem := goodIn_r _ [7, 8, 9, 6, 10] (by decide +kernel) (by decide +kernel)
set_option maxRecDepth 20000 in
theorem gX3_again_X3_isHem : GoodIn wsX3_again (va_wsS RX3 38 yX3_isHem wsX3_isHem) := goodIn_app (goodIn_of _ (by decide +kernel)) ggX3_again_X3_isHem
set_option maxRecDepth 20000 in
theorem ggX3_again_X3_no : GoodIn wsX3_again wsX3_no := goodIn_r _ [14, 1, 15, 16, 17, 18, 19, 20, 21, 22] (by decide +kernel) (by decide +kernel)
set_option maxRecDepth 20000 in
theorem gX3_again_X3_no : GoodIn wsX3_again (wsV RX3 99 RX3 yX3_no wsX3_no) := goodIn_app (goodIn_of _ (by decide +kernel)) ggX3_again_X3_no
set_option maxRecDepth 20000 in
theorem ggX3_again_X3_isIn : GoodIn wsX3_again wsX3_isIn := goodIn_r _ [10] (by decide +kernel) (by decide +kernel)
set_option maxRecDepth 20000 in
theorem gX3_again_X3_isIn : GoodIn wsX3_again (va_wsS RX3 34 yX3_isIn wsX3_isIn) := goodIn_app (goodIn_of _ (by decide +kernel)) ggX3_again_X3_isIn
theorem dX3_again_0 : decode cX3_again 0 = .ok (.aload_n 0, 1) := by decide +kernel
theorem dX3_again_1 : decode cX3_again 1 = .ok (.iconst 0, 1) := by decide +kernel
theorem dX3_again_2 : decode cX3_again 2 = .ok (.putfield 30, 3) := by decide +kernel
theorem dX3_again_5 : decode cX3_again 5 = .ok (.iload_n 1, 1) := by decide +kernel
theorem dX3_again_6 : decode cX3_again 6 = .ok (.invokestatic 38, 3) := by decide +kernel
theorem dX3_again_9 : decode cX3_again 9 = .ok (.ifCond .ne 9, 3) := by decide +kernel
theorem dX3_again_12 : decode cX3_again 12 = .ok (.aload_n 0, 1) := by decide +kernel
theorem dX3_again_13 : decode cX3_again 13 = .ok (.iconst 1, 1) := by decide +kernel
theorem dX3_again_14 : decode cX3_again 14 = .ok (.invokevirtual 99, 3) := by decide +kernel
theorem dX3_again_17 : decode cX3_again 17 = .ok (.ireturn, 1) := by decide +kernel
theorem dX3_again_18 : decode cX3_again 18 = .ok (.iload_n 2, 1) := by decide +kernel
theorem dX3_again_19 : decode cX3_again 19 = .ok (.iconst 1, 1) := by decide +kernel
theorem dX3_again_20 : decode cX3_again 20 = .ok (.bipush 40, 2) := by decide +kernel
theorem dX3_again_22 : decode cX3_again 22 = .ok (.invokestatic 34, 3) := by decide +kernel
theorem dX3_again_25 : decode cX3_again 25 = .ok (.ifCond .ne 9, 3) := by decide +kernel
theorem dX3_again_28 : decode cX3_again 28 = .ok (.aload_n 0, 1) := by decide +kernel
theorem dX3_again_29 : decode cX3_again 29 = .ok (.iconst 2, 1) := by decide +kernel
theorem dX3_again_30 : decode cX3_again 30 = .ok (.invokevirtual 99, 3) := by decide +kernel
theorem dX3_again_33 : decode cX3_again 33 = .ok (.ireturn, 1) := by decide +kernel
theorem dX3_again_34 : decode cX3_again 34 = .ok (.aload_n 0, 1) := by decide +kernel
theorem dX3_again_35 : decode cX3_again 35 = .ok (.getfield 14, 3) := by decide +kernel
theorem dX3_again_38 : decode cX3_again 38 = .ok (.iload_n 1, 1) := by decide +kernel
theorem dX3_again_39 : decode cX3_again 39 = .ok (.iaload, 1) := by decide +kernel
theorem dX3_again_40 : decode cX3_again 40 = .ok (.ifCond .eq 16, 3) := by decide +kernel
theorem dX3_again_43 : decode cX3_again 43 = .ok (.aload_n 0, 1) := by decide +kernel
theorem dX3_again_44 : decode cX3_again 44 = .ok (.getfield 14, 3) := by decide +kernel
theorem dX3_again_47 : decode cX3_again 47 = .ok (.iload_n 1, 1) := by decide +kernel
theorem dX3_again_48 : decode cX3_again 48 = .ok (.iaload, 1) := by decide +kernel
theorem dX3_again_49 : decode cX3_again 49 = .ok (.iload_n 2, 1) := by decide +kernel
theorem dX3_again_50 : decode cX3_again 50 = .ok (.iadd, 1) := by decide +kernel
theorem dX3_again_51 : decode cX3_again 51 = .ok (.bipush 40, 2) := by decide +kernel
theorem dX3_again_53 : decode cX3_again 53 = .ok (.if_icmp .le 9, 3) := by decide +kernel
theorem dX3_again_56 : decode cX3_again 56 = .ok (.aload_n 0, 1) := by decide +kernel
theorem dX3_again_57 : decode cX3_again 57 = .ok (.iconst 3, 1) := by decide +kernel
theorem dX3_again_58 : decode cX3_again 58 = .ok (.invokevirtual 99, 3) := by decide +kernel
theorem dX3_again_61 : decode cX3_again 61 = .ok (.ireturn, 1) := by decide +kernel
theorem dX3_again_62 : decode cX3_again 62 = .ok (.aload_n 0, 1) := by decide +kernel
theorem dX3_again_63 : decode cX3_again 63 = .ok (.getfield 14, 3) := by decide +kernel
theorem dX3_again_66 : decode cX3_again 66 = .ok (.iload_n 1, 1) := by decide +kernel
theorem dX3_again_67 : decode cX3_again 67 = .ok (.iaload, 1) := by decide +kernel
theorem dX3_again_68 : decode cX3_again 68 = .ok (.istore_n 3, 1) := by decide +kernel
theorem dX3_again_69 : decode cX3_again 69 = .ok (.iconst 0, 1) := by decide +kernel
theorem dX3_again_70 : decode cX3_again 70 = .ok (.istore 4, 2) := by decide +kernel
theorem dX3_again_72 : decode cX3_again 72 = .ok (.iload 4, 2) := by decide +kernel
theorem dX3_again_74 : decode cX3_again 74 = .ok (.iload_n 2, 1) := by decide +kernel
theorem dX3_again_75 : decode cX3_again 75 = .ok (.if_icmp .ge 29, 3) := by decide +kernel
theorem dX3_again_78 : decode cX3_again 78 = .ok (.aload_n 0, 1) := by decide +kernel
theorem dX3_again_79 : decode cX3_again 79 = .ok (.getfield 11, 3) := by decide +kernel
theorem dX3_again_82 : decode cX3_again 82 = .ok (.iload_n 1, 1) := by decide +kernel
theorem dX3_again_83 : decode cX3_again 83 = .ok (.aaload, 1) := by decide +kernel
theorem dX3_again_84 : decode cX3_again 84 = .ok (.iload_n 3, 1) := by decide +kernel
theorem dX3_again_85 : decode cX3_again 85 = .ok (.iload 4, 2) := by decide +kernel
theorem dX3_again_87 : decode cX3_again 87 = .ok (.iadd, 1) := by decide +kernel
theorem dX3_again_88 : decode cX3_again 88 = .ok (.aload_n 0, 1) := by decide +kernel
theorem dX3_again_89 : decode cX3_again 89 = .ok (.getfield 11, 3) := by decide +kernel
theorem dX3_again_92 : decode cX3_again 92 = .ok (.iload_n 1, 1) := by decide +kernel
theorem dX3_again_93 : decode cX3_again 93 = .ok (.aaload, 1) := by decide +kernel
theorem dX3_again_94 : decode cX3_again 94 = .ok (.iload 4, 2) := by decide +kernel
theorem dX3_again_96 : decode cX3_again 96 = .ok (.iaload, 1) := by decide +kernel
theorem dX3_again_97 : decode cX3_again 97 = .ok (.iastore, 1) := by decide +kernel
theorem dX3_again_98 : decode cX3_again 98 = .ok (.iinc 4 1, 3) := by decide +kernel
theorem dX3_again_101 : decode cX3_again 101 = .ok (.goto (-29), 3) := by decide +kernel
theorem dX3_again_104 : decode cX3_again 104 = .ok (.aload_n 0, 1) := by decide +kernel
theorem dX3_again_105 : decode cX3_again 105 = .ok (.getfield 14, 3) := by decide +kernel
theorem dX3_again_108 : decode cX3_again 108 = .ok (.iload_n 1, 1) := by decide +kernel
theorem dX3_again_109 : decode cX3_again 109 = .ok (.dup2, 1) := by decide +kernel
theorem dX3_again_110 : decode cX3_again 110 = .ok (.iaload, 1) := by decide +kernel
theorem dX3_again_111 : decode cX3_again 111 = .ok (.iload_n 2, 1) := by decide +kernel
theorem dX3_again_112 : decode cX3_again 112 = .ok (.iadd, 1) := by decide +kernel
theorem dX3_again_113 : decode cX3_again 113 = .ok (.iastore, 1) := by decide +kernel
theorem dX3_again_114 : decode cX3_again 114 = .ok (.aload_n 0, 1) := by decide +kernel
theorem dX3_again_115 : decode cX3_again 115 = .ok (.getfield 14, 3) := by decide +kernel
theorem dX3_again_118 : decode cX3_again 118 = .ok (.iload_n 1, 1) := by decide +kernel
theorem dX3_again_119 : decode cX3_again 119 = .ok (.iaload, 1) := by decide +kernel
theorem dX3_again_120 : decode cX3_again 120 = .ok (.ireturn, 1) := by decide +kernel
set_option maxRecDepth 20000 in
theorem ggX3_unpick_X3_isHem : GoodIn wsX3_unpick wsX3_isHem := goodIn_r _ [6, 7, 8, 5, 9] (by decide +kernel) (by decide +kernel)
set_option maxRecDepth 20000 in
theorem gX3_unpick_X3_isHem : GoodIn wsX3_unpick (va_wsS RX3 38 yX3_isHem wsX3_isHem) := goodIn_app (goodIn_of _ (by decide +kernel)) ggX3_unpick_X3_isHem
set_option maxRecDepth 20000 in
theorem ggX3_unpick_X3_no : GoodIn wsX3_unpick wsX3_no := goodIn_r _ [13, 1, 14, 15, 16, 17, 18, 19, 20, 21] (by decide +kernel) (by decide +kernel)
set_option maxRecDepth 20000 in
theorem gX3_unpick_X3_no : GoodIn wsX3_unpick (wsV RX3 99 RX3 yX3_no wsX3_no) := goodIn_app (goodIn_of _ (by decide +kernel)) ggX3_unpick_X3_no
set_option maxRecDepth 20000 in
theorem ggX3_unpick_X3_isIn : GoodIn wsX3_unpick wsX3_isIn := goodIn_r _ [9] (by decide +kernel) (by decide +kernel)
set_option maxRecDepth 20000 in
theorem gX3_unpick_X3_isIn : GoodIn wsX3_unpick (va_wsS RX3 34 yX3_isIn wsX3_isIn) := goodIn_app (goodIn_of _ (by decide +kernel)) ggX3_unpick_X3_isIn
theorem dX3_unpick_0 : decode cX3_unpick 0 = .ok (.aload_n 0, 1) := by decide +kernel
theorem dX3_unpick_1 : decode cX3_unpick 1 = .ok (.iconst 0, 1) := by decide +kernel
theorem dX3_unpick_2 : decode cX3_unpick 2 = .ok (.putfield 30, 3) := by decide +kernel
theorem dX3_unpick_5 : decode cX3_unpick 5 = .ok (.iload_n 1, 1) := by decide +kernel
theorem dX3_unpick_6 : decode cX3_unpick 6 = .ok (.invokestatic 38, 3) := by decide +kernel
theorem dX3_unpick_9 : decode cX3_unpick 9 = .ok (.ifCond .ne 9, 3) := by decide +kernel
theorem dX3_unpick_12 : decode cX3_unpick 12 = .ok (.aload_n 0, 1) := by decide +kernel
theorem dX3_unpick_13 : decode cX3_unpick 13 = .ok (.iconst 1, 1) := by decide +kernel
theorem dX3_unpick_14 : decode cX3_unpick 14 = .ok (.invokevirtual 99, 3) := by decide +kernel
theorem dX3_unpick_17 : decode cX3_unpick 17 = .ok (.ireturn, 1) := by decide +kernel
theorem dX3_unpick_18 : decode cX3_unpick 18 = .ok (.iload_n 2, 1) := by decide +kernel
theorem dX3_unpick_19 : decode cX3_unpick 19 = .ok (.iconst 1, 1) := by decide +kernel
theorem dX3_unpick_20 : decode cX3_unpick 20 = .ok (.aload_n 0, 1) := by decide +kernel
theorem dX3_unpick_21 : decode cX3_unpick 21 = .ok (.getfield 14, 3) := by decide +kernel
theorem dX3_unpick_24 : decode cX3_unpick 24 = .ok (.iload_n 1, 1) := by decide +kernel
theorem dX3_unpick_25 : decode cX3_unpick 25 = .ok (.iaload, 1) := by decide +kernel
theorem dX3_unpick_26 : decode cX3_unpick 26 = .ok (.invokestatic 34, 3) := by decide +kernel
theorem dX3_unpick_29 : decode cX3_unpick 29 = .ok (.ifCond .ne 9, 3) := by decide +kernel
theorem dX3_unpick_32 : decode cX3_unpick 32 = .ok (.aload_n 0, 1) := by decide +kernel
theorem dX3_unpick_33 : decode cX3_unpick 33 = .ok (.iconst 2, 1) := by decide +kernel
theorem dX3_unpick_34 : decode cX3_unpick 34 = .ok (.invokevirtual 99, 3) := by decide +kernel
theorem dX3_unpick_37 : decode cX3_unpick 37 = .ok (.ireturn, 1) := by decide +kernel
theorem dX3_unpick_38 : decode cX3_unpick 38 = .ok (.aload_n 0, 1) := by decide +kernel
theorem dX3_unpick_39 : decode cX3_unpick 39 = .ok (.getfield 14, 3) := by decide +kernel
theorem dX3_unpick_42 : decode cX3_unpick 42 = .ok (.iload_n 1, 1) := by decide +kernel
theorem dX3_unpick_43 : decode cX3_unpick 43 = .ok (.dup2, 1) := by decide +kernel
theorem dX3_unpick_44 : decode cX3_unpick 44 = .ok (.iaload, 1) := by decide +kernel
theorem dX3_unpick_45 : decode cX3_unpick 45 = .ok (.iload_n 2, 1) := by decide +kernel
theorem dX3_unpick_46 : decode cX3_unpick 46 = .ok (.isub, 1) := by decide +kernel
theorem dX3_unpick_47 : decode cX3_unpick 47 = .ok (.iastore, 1) := by decide +kernel
theorem dX3_unpick_48 : decode cX3_unpick 48 = .ok (.aload_n 0, 1) := by decide +kernel
theorem dX3_unpick_49 : decode cX3_unpick 49 = .ok (.getfield 14, 3) := by decide +kernel
theorem dX3_unpick_52 : decode cX3_unpick 52 = .ok (.iload_n 1, 1) := by decide +kernel
theorem dX3_unpick_53 : decode cX3_unpick 53 = .ok (.iaload, 1) := by decide +kernel
theorem dX3_unpick_54 : decode cX3_unpick 54 = .ok (.ireturn, 1) := by decide +kernel
set_option maxRecDepth 20000 in
theorem ggX3_add_X3_isStitch : GoodIn wsX3_add wsX3_isStitch := goodIn_r _ [7, 8, 9, 6, 10] (by decide +kernel) (by decide +kernel)
set_option maxRecDepth 20000 in
theorem gX3_add_X3_isStitch : GoodIn wsX3_add (va_wsS RX3 102 yX3_isStitch wsX3_isStitch) := goodIn_app (goodIn_of _ (by decide +kernel)) ggX3_add_X3_isStitch
set_option maxRecDepth 20000 in
theorem ggX3_add_X3_no : GoodIn wsX3_add wsX3_no := goodIn_r _ [14, 1, 15, 16, 17, 18, 19, 20, 21, 22] (by decide +kernel) (by decide +kernel)
set_option maxRecDepth 20000 in
theorem gX3_add_X3_no : GoodIn wsX3_add (wsV RX3 99 RX3 yX3_no wsX3_no) := goodIn_app (goodIn_of _ (by decide +kernel)) ggX3_add_X3_no
theorem dX3_add_0 : decode cX3_add 0 = .ok (.aload_n 0, 1) := by decide +kernel
theorem dX3_add_1 : decode cX3_add 1 = .ok (.iconst 0, 1) := by decide +kernel
theorem dX3_add_2 : decode cX3_add 2 = .ok (.putfield 30, 3) := by decide +kernel
theorem dX3_add_5 : decode cX3_add 5 = .ok (.iload_n 1, 1) := by decide +kernel
theorem dX3_add_6 : decode cX3_add 6 = .ok (.invokestatic 102, 3) := by decide +kernel
theorem dX3_add_9 : decode cX3_add 9 = .ok (.ifCond .ne 9, 3) := by decide +kernel
theorem dX3_add_12 : decode cX3_add 12 = .ok (.aload_n 0, 1) := by decide +kernel
theorem dX3_add_13 : decode cX3_add 13 = .ok (.iconst 1, 1) := by decide +kernel
theorem dX3_add_14 : decode cX3_add 14 = .ok (.invokevirtual 99, 3) := by decide +kernel
theorem dX3_add_17 : decode cX3_add 17 = .ok (.ireturn, 1) := by decide +kernel
theorem dX3_add_18 : decode cX3_add 18 = .ok (.aload_n 0, 1) := by decide +kernel
theorem dX3_add_19 : decode cX3_add 19 = .ok (.getfield 83, 3) := by decide +kernel
theorem dX3_add_22 : decode cX3_add 22 = .ok (.bipush 12, 2) := by decide +kernel
theorem dX3_add_24 : decode cX3_add 24 = .ok (.if_icmp .ne 9, 3) := by decide +kernel
theorem dX3_add_27 : decode cX3_add 27 = .ok (.aload_n 0, 1) := by decide +kernel
theorem dX3_add_28 : decode cX3_add 28 = .ok (.iconst 2, 1) := by decide +kernel
theorem dX3_add_29 : decode cX3_add 29 = .ok (.invokevirtual 99, 3) := by decide +kernel
theorem dX3_add_32 : decode cX3_add 32 = .ok (.ireturn, 1) := by decide +kernel
theorem dX3_add_33 : decode cX3_add 33 = .ok (.aload_n 0, 1) := by decide +kernel
theorem dX3_add_34 : decode cX3_add 34 = .ok (.getfield 18, 3) := by decide +kernel
theorem dX3_add_37 : decode cX3_add 37 = .ok (.aload_n 0, 1) := by decide +kernel
theorem dX3_add_38 : decode cX3_add 38 = .ok (.getfield 83, 3) := by decide +kernel
theorem dX3_add_41 : decode cX3_add 41 = .ok (.iload_n 1, 1) := by decide +kernel
theorem dX3_add_42 : decode cX3_add 42 = .ok (.iastore, 1) := by decide +kernel
theorem dX3_add_43 : decode cX3_add 43 = .ok (.aload_n 0, 1) := by decide +kernel
theorem dX3_add_44 : decode cX3_add 44 = .ok (.dup, 1) := by decide +kernel
theorem dX3_add_45 : decode cX3_add 45 = .ok (.getfield 83, 3) := by decide +kernel
theorem dX3_add_48 : decode cX3_add 48 = .ok (.iconst 1, 1) := by decide +kernel
theorem dX3_add_49 : decode cX3_add 49 = .ok (.iadd, 1) := by decide +kernel
theorem dX3_add_50 : decode cX3_add 50 = .ok (.putfield 83, 3) := by decide +kernel
theorem dX3_add_53 : decode cX3_add 53 = .ok (.aload_n 0, 1) := by decide +kernel
theorem dX3_add_54 : decode cX3_add 54 = .ok (.getfield 83, 3) := by decide +kernel
theorem dX3_add_57 : decode cX3_add 57 = .ok (.ireturn, 1) := by decide +kernel
theorem dX3_clear_0 : decode cX3_clear 0 = .ok (.aload_n 0, 1) := by decide +kernel
theorem dX3_clear_1 : decode cX3_clear 1 = .ok (.iconst 0, 1) := by decide +kernel
theorem dX3_clear_2 : decode cX3_clear 2 = .ok (.putfield 30, 3) := by decide +kernel
theorem dX3_clear_5 : decode cX3_clear 5 = .ok (.aload_n 0, 1) := by decide +kernel
theorem dX3_clear_6 : decode cX3_clear 6 = .ok (.getfield 83, 3) := by decide +kernel
theorem dX3_clear_9 : decode cX3_clear 9 = .ok (.istore_n 1, 1) := by decide +kernel
theorem dX3_clear_10 : decode cX3_clear 10 = .ok (.aload_n 0, 1) := by decide +kernel
theorem dX3_clear_11 : decode cX3_clear 11 = .ok (.iconst 0, 1) := by decide +kernel
theorem dX3_clear_12 : decode cX3_clear 12 = .ok (.putfield 83, 3) := by decide +kernel
theorem dX3_clear_15 : decode cX3_clear 15 = .ok (.iload_n 1, 1) := by decide +kernel
theorem dX3_clear_16 : decode cX3_clear 16 = .ok (.ireturn, 1) := by decide +kernel
set_option maxRecDepth 20000 in
theorem ggX3_stitch_X3_isPlace : GoodIn wsX3_stitch wsX3_isPlace := goodIn_r _ [7, 8, 9, 10, 6, 11, 12, 13, 14, 19, 20, 21, 22, 23, 24, 25, 26] (by decide +kernel) (by decide +kernel)
set_option maxRecDepth 20000 in
theorem gX3_stitch_X3_isPlace : GoodIn wsX3_stitch (wsV RX3 105 RX3 yX3_isPlace wsX3_isPlace) := goodIn_app (goodIn_of _ (by decide +kernel)) ggX3_stitch_X3_isPlace
set_option maxRecDepth 20000 in
theorem ggX3_stitch_X3_no : GoodIn wsX3_stitch wsX3_no := goodIn_r _ [18, 1, 19, 20, 21, 22, 23, 24, 25, 26] (by decide +kernel) (by decide +kernel)
set_option maxRecDepth 20000 in
theorem gX3_stitch_X3_no : GoodIn wsX3_stitch (wsV RX3 99 RX3 yX3_no wsX3_no) := goodIn_app (goodIn_of _ (by decide +kernel)) ggX3_stitch_X3_no
theorem dX3_stitch_0 : decode cX3_stitch 0 = .ok (.aload_n 0, 1) := by decide +kernel
theorem dX3_stitch_1 : decode cX3_stitch 1 = .ok (.iconst 0, 1) := by decide +kernel
theorem dX3_stitch_2 : decode cX3_stitch 2 = .ok (.putfield 30, 3) := by decide +kernel
theorem dX3_stitch_5 : decode cX3_stitch 5 = .ok (.aload_n 0, 1) := by decide +kernel
theorem dX3_stitch_6 : decode cX3_stitch 6 = .ok (.iload_n 1, 1) := by decide +kernel
theorem dX3_stitch_7 : decode cX3_stitch 7 = .ok (.iload_n 2, 1) := by decide +kernel
theorem dX3_stitch_8 : decode cX3_stitch 8 = .ok (.invokevirtual 105, 3) := by decide +kernel
theorem dX3_stitch_11 : decode cX3_stitch 11 = .ok (.ifCond .eq 14, 3) := by decide +kernel
theorem dX3_stitch_14 : decode cX3_stitch 14 = .ok (.aload_n 0, 1) := by decide +kernel
theorem dX3_stitch_15 : decode cX3_stitch 15 = .ok (.getfield 11, 3) := by decide +kernel
theorem dX3_stitch_18 : decode cX3_stitch 18 = .ok (.iload_n 1, 1) := by decide +kernel
theorem dX3_stitch_19 : decode cX3_stitch 19 = .ok (.aaload, 1) := by decide +kernel
theorem dX3_stitch_20 : decode cX3_stitch 20 = .ok (.iload_n 2, 1) := by decide +kernel
theorem dX3_stitch_21 : decode cX3_stitch 21 = .ok (.iaload, 1) := by decide +kernel
theorem dX3_stitch_22 : decode cX3_stitch 22 = .ok (.goto 8, 3) := by decide +kernel
theorem dX3_stitch_25 : decode cX3_stitch 25 = .ok (.aload_n 0, 1) := by decide +kernel
theorem dX3_stitch_26 : decode cX3_stitch 26 = .ok (.iconst 1, 1) := by decide +kernel
theorem dX3_stitch_27 : decode cX3_stitch 27 = .ok (.invokevirtual 99, 3) := by decide +kernel
theorem dX3_stitch_30 : decode cX3_stitch 30 = .ok (.ireturn, 1) := by decide +kernel
set_option maxRecDepth 20000 in
theorem ggX3_counted_X3_differentRows : GoodIn wsX3_counted wsX3_differentRows := goodIn_r _ [7, 1, 8, 9, 10, 6, 11, 12, 13, 14, 15, 16, 17, 18, 19, 20, 21, 22, 23, 24, 45, 46, 47, 48, 49, 50, 51, 52] (by decide +kernel) (by decide +kernel)
set_option maxRecDepth 20000 in
theorem gX3_counted_X3_differentRows : GoodIn wsX3_counted (wsV RX3 108 RX3 yX3_differentRows wsX3_differentRows) := goodIn_app (goodIn_of _ (by decide +kernel)) ggX3_counted_X3_differentRows
set_option maxRecDepth 20000 in
theorem ggX3_counted_X3_seamTold : GoodIn wsX3_counted wsX3_seamTold := goodIn_r _ [28, 1, 13, 29, 8, 9, 10, 6, 11, 12, 14, 15, 16, 30, 31, 32, 33, 34, 35, 36, 37, 21, 22, 23, 24, 38, 39, 40, 41, 42, 43, 44, 45, 46, 47, 48, 49, 50, 51, 52] (by decide +kernel) (by decide +kernel)
set_option maxRecDepth 20000 in
theorem gX3_counted_X3_seamTold : GoodIn wsX3_counted (wsV RX3 111 RX3 yX3_seamTold wsX3_seamTold) := goodIn_app (goodIn_of _ (by decide +kernel)) ggX3_counted_X3_seamTold
theorem dX3_counted_0 : decode cX3_counted 0 = .ok (.iload_n 1, 1) := by decide +kernel
theorem dX3_counted_1 : decode cX3_counted 1 = .ok (.iconst 2, 1) := by decide +kernel
theorem dX3_counted_2 : decode cX3_counted 2 = .ok (.if_icmp .ge 12, 3) := by decide +kernel
theorem dX3_counted_5 : decode cX3_counted 5 = .ok (.aload_n 0, 1) := by decide +kernel
theorem dX3_counted_6 : decode cX3_counted 6 = .ok (.getfield 14, 3) := by decide +kernel
theorem dX3_counted_9 : decode cX3_counted 9 = .ok (.iload_n 1, 1) := by decide +kernel
theorem dX3_counted_10 : decode cX3_counted 10 = .ok (.iaload, 1) := by decide +kernel
theorem dX3_counted_11 : decode cX3_counted 11 = .ok (.goto 35, 3) := by decide +kernel
theorem dX3_counted_14 : decode cX3_counted 14 = .ok (.iload_n 1, 1) := by decide +kernel
theorem dX3_counted_15 : decode cX3_counted 15 = .ok (.iconst 2, 1) := by decide +kernel
theorem dX3_counted_16 : decode cX3_counted 16 = .ok (.if_icmp .ne 10, 3) := by decide +kernel
theorem dX3_counted_19 : decode cX3_counted 19 = .ok (.aload_n 0, 1) := by decide +kernel
theorem dX3_counted_20 : decode cX3_counted 20 = .ok (.getfield 83, 3) := by decide +kernel
theorem dX3_counted_23 : decode cX3_counted 23 = .ok (.goto 23, 3) := by decide +kernel
theorem dX3_counted_26 : decode cX3_counted 26 = .ok (.iload_n 1, 1) := by decide +kernel
theorem dX3_counted_27 : decode cX3_counted 27 = .ok (.iconst 5, 1) := by decide +kernel
theorem dX3_counted_28 : decode cX3_counted 28 = .ok (.if_icmp .ge 13, 3) := by decide +kernel
theorem dX3_counted_31 : decode cX3_counted 31 = .ok (.aload_n 0, 1) := by decide +kernel
theorem dX3_counted_32 : decode cX3_counted 32 = .ok (.iload_n 1, 1) := by decide +kernel
theorem dX3_counted_33 : decode cX3_counted 33 = .ok (.iconst 3, 1) := by decide +kernel
theorem dX3_counted_34 : decode cX3_counted 34 = .ok (.isub, 1) := by decide +kernel
theorem dX3_counted_35 : decode cX3_counted 35 = .ok (.invokevirtual 108, 3) := by decide +kernel
theorem dX3_counted_38 : decode cX3_counted 38 = .ok (.goto 8, 3) := by decide +kernel
theorem dX3_counted_41 : decode cX3_counted 41 = .ok (.aload_n 0, 1) := by decide +kernel
theorem dX3_counted_42 : decode cX3_counted 42 = .ok (.iconst 0, 1) := by decide +kernel
theorem dX3_counted_43 : decode cX3_counted 43 = .ok (.invokevirtual 111, 3) := by decide +kernel
theorem dX3_counted_46 : decode cX3_counted 46 = .ok (.ireturn, 1) := by decide +kernel
set_option maxRecDepth 20000 in
theorem ggX3_count_X3_isIn : GoodIn wsX3_count wsX3_isIn := goodIn_r _ [5] (by decide +kernel) (by decide +kernel)
set_option maxRecDepth 20000 in
theorem gX3_count_X3_isIn : GoodIn wsX3_count (va_wsS RX3 34 yX3_isIn wsX3_isIn) := goodIn_app (goodIn_of _ (by decide +kernel)) ggX3_count_X3_isIn
set_option maxRecDepth 20000 in
theorem ggX3_count_X3_counted : GoodIn wsX3_count wsX3_counted := goodIn_r _ [9, 10, 11, 12, 13, 14, 4, 15, 16, 17, 18, 19, 20, 21, 22, 23, 24, 25, 26, 27, 28, 29, 30, 31, 32, 33, 34, 35, 36, 37, 38, 39, 40, 41, 42, 43, 44, 45, 46, 47, 48, 49, 50, 51, 52, 57, 58, 59, 60, 61, 62, 63, 64] (by decide +kernel) (by decide +kernel)
set_option maxRecDepth 20000 in
theorem gX3_count_X3_counted : GoodIn wsX3_count (wsV RX3 114 RX3 yX3_counted wsX3_counted) := goodIn_app (goodIn_of _ (by decide +kernel)) ggX3_count_X3_counted
set_option maxRecDepth 20000 in
theorem ggX3_count_X3_no : GoodIn wsX3_count wsX3_no := goodIn_r _ [56, 1, 57, 58, 59, 60, 61, 62, 63, 64] (by decide +kernel) (by decide +kernel)
set_option maxRecDepth 20000 in
theorem gX3_count_X3_no : GoodIn wsX3_count (wsV RX3 99 RX3 yX3_no wsX3_no) := goodIn_app (goodIn_of _ (by decide +kernel)) ggX3_count_X3_no
theorem dX3_count_0 : decode cX3_count 0 = .ok (.aload_n 0, 1) := by decide +kernel
theorem dX3_count_1 : decode cX3_count 1 = .ok (.iconst 0, 1) := by decide +kernel
theorem dX3_count_2 : decode cX3_count 2 = .ok (.putfield 30, 3) := by decide +kernel
theorem dX3_count_5 : decode cX3_count 5 = .ok (.iload_n 1, 1) := by decide +kernel
theorem dX3_count_6 : decode cX3_count 6 = .ok (.iconst 0, 1) := by decide +kernel
theorem dX3_count_7 : decode cX3_count 7 = .ok (.iconst 5, 1) := by decide +kernel
theorem dX3_count_8 : decode cX3_count 8 = .ok (.invokestatic 34, 3) := by decide +kernel
theorem dX3_count_11 : decode cX3_count 11 = .ok (.ifCond .eq 11, 3) := by decide +kernel
theorem dX3_count_14 : decode cX3_count 14 = .ok (.aload_n 0, 1) := by decide +kernel
theorem dX3_count_15 : decode cX3_count 15 = .ok (.iload_n 1, 1) := by decide +kernel
theorem dX3_count_16 : decode cX3_count 16 = .ok (.invokevirtual 114, 3) := by decide +kernel
theorem dX3_count_19 : decode cX3_count 19 = .ok (.goto 8, 3) := by decide +kernel
theorem dX3_count_22 : decode cX3_count 22 = .ok (.aload_n 0, 1) := by decide +kernel
theorem dX3_count_23 : decode cX3_count 23 = .ok (.iconst 1, 1) := by decide +kernel
theorem dX3_count_24 : decode cX3_count 24 = .ok (.invokevirtual 99, 3) := by decide +kernel
theorem dX3_count_27 : decode cX3_count 27 = .ok (.ireturn, 1) := by decide +kernel
set_option maxRecDepth 20000 in
theorem ggX3_end_X3_isPlace : GoodIn wsX3_end wsX3_isPlace := goodIn_r _ [7, 8, 9, 10, 6, 11, 12, 13, 14, 43, 44, 45, 46, 47, 48, 49, 50] (by decide +kernel) (by decide +kernel)
set_option maxRecDepth 20000 in
theorem gX3_end_X3_isPlace : GoodIn wsX3_end (wsV RX3 105 RX3 yX3_isPlace wsX3_isPlace) := goodIn_app (goodIn_of _ (by decide +kernel)) ggX3_end_X3_isPlace
set_option maxRecDepth 20000 in
theorem ggX3_end_X3_no : GoodIn wsX3_end wsX3_no := goodIn_r _ [18, 1, 43, 44, 45, 46, 47, 48, 49, 50] (by decide +kernel) (by decide +kernel)
set_option maxRecDepth 20000 in
theorem gX3_end_X3_no : GoodIn wsX3_end (wsV RX3 99 RX3 yX3_no wsX3_no) := goodIn_app (goodIn_of _ (by decide +kernel)) ggX3_end_X3_no
set_option maxRecDepth 20000 in
theorem ggX3_end_X3_order : GoodIn wsX3_end wsX3_order := goodIn_r _ [22, 8, 2, 23, 24, 25, 6, 26, 27, 28, 29, 30, 31, 32, 33, 34, 35, 36, 37, 38, 39, 40, 41, 42, 43, 44, 45, 46, 47, 48, 49, 50] (by decide +kernel) (by decide +kernel)
set_option maxRecDepth 20000 in
theorem gX3_end_X3_order : GoodIn wsX3_end (wsV RX3 117 RX3 yX3_order wsX3_order) := goodIn_app (goodIn_of _ (by decide +kernel)) ggX3_end_X3_order
theorem dX3_end_0 : decode cX3_end 0 = .ok (.aload_n 0, 1) := by decide +kernel
theorem dX3_end_1 : decode cX3_end 1 = .ok (.iconst 0, 1) := by decide +kernel
theorem dX3_end_2 : decode cX3_end 2 = .ok (.putfield 30, 3) := by decide +kernel
theorem dX3_end_5 : decode cX3_end 5 = .ok (.aload_n 0, 1) := by decide +kernel
theorem dX3_end_6 : decode cX3_end 6 = .ok (.iload_n 1, 1) := by decide +kernel
theorem dX3_end_7 : decode cX3_end 7 = .ok (.iload_n 2, 1) := by decide +kernel
theorem dX3_end_8 : decode cX3_end 8 = .ok (.invokevirtual 105, 3) := by decide +kernel
theorem dX3_end_11 : decode cX3_end 11 = .ok (.ifCond .ne 9, 3) := by decide +kernel
theorem dX3_end_14 : decode cX3_end 14 = .ok (.aload_n 0, 1) := by decide +kernel
theorem dX3_end_15 : decode cX3_end 15 = .ok (.iconst 1, 1) := by decide +kernel
theorem dX3_end_16 : decode cX3_end 16 = .ok (.invokevirtual 99, 3) := by decide +kernel
theorem dX3_end_19 : decode cX3_end 19 = .ok (.ireturn, 1) := by decide +kernel
theorem dX3_end_20 : decode cX3_end 20 = .ok (.aload_n 0, 1) := by decide +kernel
theorem dX3_end_21 : decode cX3_end 21 = .ok (.iload_n 1, 1) := by decide +kernel
theorem dX3_end_22 : decode cX3_end 22 = .ok (.invokevirtual 117, 3) := by decide +kernel
theorem dX3_end_25 : decode cX3_end 25 = .ok (.aload_n 0, 1) := by decide +kernel
theorem dX3_end_26 : decode cX3_end 26 = .ok (.getfield 24, 3) := by decide +kernel
theorem dX3_end_29 : decode cX3_end 29 = .ok (.iload_n 2, 1) := by decide +kernel
theorem dX3_end_30 : decode cX3_end 30 = .ok (.iaload, 1) := by decide +kernel
theorem dX3_end_31 : decode cX3_end 31 = .ok (.ireturn, 1) := by decide +kernel
set_option maxRecDepth 20000 in
theorem ggX3_rank_X3_isPlace : GoodIn wsX3_rank wsX3_isPlace := goodIn_r _ [6, 7, 8, 9, 5, 10, 11, 12, 13, 38, 39, 40, 41, 42, 43, 44, 45] (by decide +kernel) (by decide +kernel)
set_option maxRecDepth 20000 in
theorem gX3_rank_X3_isPlace : GoodIn wsX3_rank (wsV RX3 105 RX3 yX3_isPlace wsX3_isPlace) := goodIn_app (goodIn_of _ (by decide +kernel)) ggX3_rank_X3_isPlace
set_option maxRecDepth 20000 in
theorem ggX3_rank_X3_no : GoodIn wsX3_rank wsX3_no := goodIn_r _ [17, 1, 38, 39, 40, 41, 42, 43, 44, 45] (by decide +kernel) (by decide +kernel)
set_option maxRecDepth 20000 in
theorem gX3_rank_X3_no : GoodIn wsX3_rank (wsV RX3 99 RX3 yX3_no wsX3_no) := goodIn_app (goodIn_of _ (by decide +kernel)) ggX3_rank_X3_no
set_option maxRecDepth 20000 in
theorem ggX3_rank_X3_look : GoodIn wsX3_rank wsX3_look := goodIn_r _ [21, 22, 7, 23, 24, 25, 5, 26, 38, 39, 40, 41, 42, 43, 44, 45] (by decide +kernel) (by decide +kernel)
set_option maxRecDepth 20000 in
theorem gX3_rank_X3_look : GoodIn wsX3_rank (wsV RX3 53 RX3 yX3_look wsX3_look) := goodIn_app (goodIn_of _ (by decide +kernel)) ggX3_rank_X3_look
set_option maxRecDepth 20000 in
theorem ggX3_rank_X3_rankOf : GoodIn wsX3_rank wsX3_rankOf := goodIn_r _ [30, 7, 31, 32, 33, 5, 34, 22, 23, 35, 36, 37, 38, 39, 40, 41, 42, 43, 44, 45] (by decide +kernel) (by decide +kernel)
set_option maxRecDepth 20000 in
theorem gX3_rank_X3_rankOf : GoodIn wsX3_rank (wsV RX3 57 RX3 yX3_rankOf wsX3_rankOf) := goodIn_app (goodIn_of _ (by decide +kernel)) ggX3_rank_X3_rankOf
theorem dX3_rank_0 : decode cX3_rank 0 = .ok (.aload_n 0, 1) := by decide +kernel
theorem dX3_rank_1 : decode cX3_rank 1 = .ok (.iconst 0, 1) := by decide +kernel
theorem dX3_rank_2 : decode cX3_rank 2 = .ok (.putfield 30, 3) := by decide +kernel
theorem dX3_rank_5 : decode cX3_rank 5 = .ok (.aload_n 0, 1) := by decide +kernel
theorem dX3_rank_6 : decode cX3_rank 6 = .ok (.iload_n 1, 1) := by decide +kernel
theorem dX3_rank_7 : decode cX3_rank 7 = .ok (.iload_n 2, 1) := by decide +kernel
theorem dX3_rank_8 : decode cX3_rank 8 = .ok (.invokevirtual 105, 3) := by decide +kernel
theorem dX3_rank_11 : decode cX3_rank 11 = .ok (.ifCond .ne 9, 3) := by decide +kernel
theorem dX3_rank_14 : decode cX3_rank 14 = .ok (.aload_n 0, 1) := by decide +kernel
theorem dX3_rank_15 : decode cX3_rank 15 = .ok (.iconst 1, 1) := by decide +kernel
theorem dX3_rank_16 : decode cX3_rank 16 = .ok (.invokevirtual 99, 3) := by decide +kernel
theorem dX3_rank_19 : decode cX3_rank 19 = .ok (.ireturn, 1) := by decide +kernel
theorem dX3_rank_20 : decode cX3_rank 20 = .ok (.aload_n 0, 1) := by decide +kernel
theorem dX3_rank_21 : decode cX3_rank 21 = .ok (.iload_n 1, 1) := by decide +kernel
theorem dX3_rank_22 : decode cX3_rank 22 = .ok (.invokevirtual 53, 3) := by decide +kernel
theorem dX3_rank_25 : decode cX3_rank 25 = .ok (.aload_n 0, 1) := by decide +kernel
theorem dX3_rank_26 : decode cX3_rank 26 = .ok (.iload_n 1, 1) := by decide +kernel
theorem dX3_rank_27 : decode cX3_rank 27 = .ok (.iload_n 2, 1) := by decide +kernel
theorem dX3_rank_28 : decode cX3_rank 28 = .ok (.invokevirtual 57, 3) := by decide +kernel
theorem dX3_rank_31 : decode cX3_rank 31 = .ok (.ireturn, 1) := by decide +kernel
set_option maxRecDepth 20000 in
theorem ggX3_common_X3_isPlace : GoodIn wsX3_common wsX3_isPlace := goodIn_r _ [7, 8, 9, 10, 6, 11, 12, 13, 14, 27, 28, 29, 30, 31, 32, 33, 34] (by decide +kernel) (by decide +kernel)
set_option maxRecDepth 20000 in
theorem gX3_common_X3_isPlace : GoodIn wsX3_common (wsV RX3 105 RX3 yX3_isPlace wsX3_isPlace) := goodIn_app (goodIn_of _ (by decide +kernel)) ggX3_common_X3_isPlace
set_option maxRecDepth 20000 in
theorem ggX3_common_X3_no : GoodIn wsX3_common wsX3_no := goodIn_r _ [18, 1, 27, 28, 29, 30, 31, 32, 33, 34] (by decide +kernel) (by decide +kernel)
set_option maxRecDepth 20000 in
theorem gX3_common_X3_no : GoodIn wsX3_common (wsV RX3 99 RX3 yX3_no wsX3_no) := goodIn_app (goodIn_of _ (by decide +kernel)) ggX3_common_X3_no
set_option maxRecDepth 20000 in
theorem ggX3_common_X3_look : GoodIn wsX3_common wsX3_look := goodIn_r _ [22, 23, 8, 2, 24, 25, 6, 26, 27, 28, 29, 30, 31, 32, 33, 34] (by decide +kernel) (by decide +kernel)
set_option maxRecDepth 20000 in
theorem gX3_common_X3_look : GoodIn wsX3_common (wsV RX3 53 RX3 yX3_look wsX3_look) := goodIn_app (goodIn_of _ (by decide +kernel)) ggX3_common_X3_look
theorem dX3_common_0 : decode cX3_common 0 = .ok (.aload_n 0, 1) := by decide +kernel
theorem dX3_common_1 : decode cX3_common 1 = .ok (.iconst 0, 1) := by decide +kernel
theorem dX3_common_2 : decode cX3_common 2 = .ok (.putfield 30, 3) := by decide +kernel
theorem dX3_common_5 : decode cX3_common 5 = .ok (.aload_n 0, 1) := by decide +kernel
theorem dX3_common_6 : decode cX3_common 6 = .ok (.iload_n 1, 1) := by decide +kernel
theorem dX3_common_7 : decode cX3_common 7 = .ok (.iload_n 2, 1) := by decide +kernel
theorem dX3_common_8 : decode cX3_common 8 = .ok (.invokevirtual 105, 3) := by decide +kernel
theorem dX3_common_11 : decode cX3_common 11 = .ok (.ifCond .eq 12, 3) := by decide +kernel
theorem dX3_common_14 : decode cX3_common 14 = .ok (.aload_n 0, 1) := by decide +kernel
theorem dX3_common_15 : decode cX3_common 15 = .ok (.iload_n 1, 1) := by decide +kernel
theorem dX3_common_16 : decode cX3_common 16 = .ok (.iload_n 3, 1) := by decide +kernel
theorem dX3_common_17 : decode cX3_common 17 = .ok (.invokevirtual 105, 3) := by decide +kernel
theorem dX3_common_20 : decode cX3_common 20 = .ok (.ifCond .ne 9, 3) := by decide +kernel
theorem dX3_common_23 : decode cX3_common 23 = .ok (.aload_n 0, 1) := by decide +kernel
theorem dX3_common_24 : decode cX3_common 24 = .ok (.iconst 1, 1) := by decide +kernel
theorem dX3_common_25 : decode cX3_common 25 = .ok (.invokevirtual 99, 3) := by decide +kernel
theorem dX3_common_28 : decode cX3_common 28 = .ok (.ireturn, 1) := by decide +kernel
theorem dX3_common_29 : decode cX3_common 29 = .ok (.aload_n 0, 1) := by decide +kernel
theorem dX3_common_30 : decode cX3_common 30 = .ok (.iload_n 1, 1) := by decide +kernel
theorem dX3_common_31 : decode cX3_common 31 = .ok (.invokevirtual 53, 3) := by decide +kernel
theorem dX3_common_34 : decode cX3_common 34 = .ok (.aload_n 0, 1) := by decide +kernel
theorem dX3_common_35 : decode cX3_common 35 = .ok (.getfield 21, 3) := by decide +kernel
theorem dX3_common_38 : decode cX3_common 38 = .ok (.iload_n 2, 1) := by decide +kernel
theorem dX3_common_39 : decode cX3_common 39 = .ok (.aaload, 1) := by decide +kernel
theorem dX3_common_40 : decode cX3_common 40 = .ok (.iload_n 3, 1) := by decide +kernel
theorem dX3_common_41 : decode cX3_common 41 = .ok (.iaload, 1) := by decide +kernel
theorem dX3_common_42 : decode cX3_common 42 = .ok (.ireturn, 1) := by decide +kernel
set_option maxRecDepth 20000 in
theorem ggX3_against_X3_isPlace : GoodIn wsX3_against wsX3_isPlace := goodIn_r _ [9, 3, 10, 11, 8, 12, 13, 14, 15, 30, 31, 32, 33, 34, 35, 36, 37] (by decide +kernel) (by decide +kernel)
set_option maxRecDepth 20000 in
theorem gX3_against_X3_isPlace : GoodIn wsX3_against (wsV RX3 105 RX3 yX3_isPlace wsX3_isPlace) := goodIn_app (goodIn_of _ (by decide +kernel)) ggX3_against_X3_isPlace
set_option maxRecDepth 20000 in
theorem ggX3_against_X3_no : GoodIn wsX3_against wsX3_no := goodIn_r _ [19, 1, 30, 31, 32, 33, 34, 35, 36, 37] (by decide +kernel) (by decide +kernel)
set_option maxRecDepth 20000 in
theorem gX3_against_X3_no : GoodIn wsX3_against (wsV RX3 99 RX3 yX3_no wsX3_no) := goodIn_app (goodIn_of _ (by decide +kernel)) ggX3_against_X3_no
set_option maxRecDepth 20000 in
theorem ggX3_against_X3_lookAtBoth : GoodIn wsX3_against wsX3_lookAtBoth := goodIn_r _ [23, 2, 3, 4, 24, 25, 8, 26, 30, 31, 32, 33, 34, 35, 36, 37] (by decide +kernel) (by decide +kernel)
set_option maxRecDepth 20000 in
theorem gX3_against_X3_lookAtBoth : GoodIn wsX3_against (wsV RX3 77 RX3 yX3_lookAtBoth wsX3_lookAtBoth) := goodIn_app (goodIn_of _ (by decide +kernel)) ggX3_against_X3_lookAtBoth
set_option maxRecDepth 20000 in
theorem ggX3_against_X3_by : GoodIn wsX3_against wsX3_by := goodIn_r _ [29] (by decide +kernel) (by decide +kernel)
set_option maxRecDepth 20000 in
theorem gX3_against_X3_by : GoodIn wsX3_against (va_wsS RX3 42 yX3_by wsX3_by) := goodIn_app (goodIn_of _ (by decide +kernel)) ggX3_against_X3_by
theorem dX3_against_0 : decode cX3_against 0 = .ok (.aload_n 0, 1) := by decide +kernel
theorem dX3_against_1 : decode cX3_against 1 = .ok (.iconst 0, 1) := by decide +kernel
theorem dX3_against_2 : decode cX3_against 2 = .ok (.putfield 30, 3) := by decide +kernel
theorem dX3_against_5 : decode cX3_against 5 = .ok (.aload_n 0, 1) := by decide +kernel
theorem dX3_against_6 : decode cX3_against 6 = .ok (.iconst 0, 1) := by decide +kernel
theorem dX3_against_7 : decode cX3_against 7 = .ok (.iload_n 1, 1) := by decide +kernel
theorem dX3_against_8 : decode cX3_against 8 = .ok (.invokevirtual 105, 3) := by decide +kernel
theorem dX3_against_11 : decode cX3_against 11 = .ok (.ifCond .eq 12, 3) := by decide +kernel
theorem dX3_against_14 : decode cX3_against 14 = .ok (.aload_n 0, 1) := by decide +kernel
theorem dX3_against_15 : decode cX3_against 15 = .ok (.iconst 1, 1) := by decide +kernel
theorem dX3_against_16 : decode cX3_against 16 = .ok (.iload_n 2, 1) := by decide +kernel
theorem dX3_against_17 : decode cX3_against 17 = .ok (.invokevirtual 105, 3) := by decide +kernel
theorem dX3_against_20 : decode cX3_against 20 = .ok (.ifCond .ne 9, 3) := by decide +kernel
theorem dX3_against_23 : decode cX3_against 23 = .ok (.aload_n 0, 1) := by decide +kernel
theorem dX3_against_24 : decode cX3_against 24 = .ok (.iconst 1, 1) := by decide +kernel
theorem dX3_against_25 : decode cX3_against 25 = .ok (.invokevirtual 99, 3) := by decide +kernel
theorem dX3_against_28 : decode cX3_against 28 = .ok (.ireturn, 1) := by decide +kernel
theorem dX3_against_29 : decode cX3_against 29 = .ok (.aload_n 0, 1) := by decide +kernel
theorem dX3_against_30 : decode cX3_against 30 = .ok (.invokevirtual 77, 3) := by decide +kernel
theorem dX3_against_33 : decode cX3_against 33 = .ok (.aload_n 0, 1) := by decide +kernel
theorem dX3_against_34 : decode cX3_against 34 = .ok (.getfield 11, 3) := by decide +kernel
theorem dX3_against_37 : decode cX3_against 37 = .ok (.iconst 0, 1) := by decide +kernel
theorem dX3_against_38 : decode cX3_against 38 = .ok (.aaload, 1) := by decide +kernel
theorem dX3_against_39 : decode cX3_against 39 = .ok (.aload_n 0, 1) := by decide +kernel
theorem dX3_against_40 : decode cX3_against 40 = .ok (.getfield 14, 3) := by decide +kernel
theorem dX3_against_43 : decode cX3_against 43 = .ok (.iconst 0, 1) := by decide +kernel
theorem dX3_against_44 : decode cX3_against 44 = .ok (.iaload, 1) := by decide +kernel
theorem dX3_against_45 : decode cX3_against 45 = .ok (.iload_n 1, 1) := by decide +kernel
theorem dX3_against_46 : decode cX3_against 46 = .ok (.aload_n 0, 1) := by decide +kernel
theorem dX3_against_47 : decode cX3_against 47 = .ok (.getfield 11, 3) := by decide +kernel
theorem dX3_against_50 : decode cX3_against 50 = .ok (.iconst 1, 1) := by decide +kernel
theorem dX3_against_51 : decode cX3_against 51 = .ok (.aaload, 1) := by decide +kernel
theorem dX3_against_52 : decode cX3_against 52 = .ok (.aload_n 0, 1) := by decide +kernel
theorem dX3_against_53 : decode cX3_against 53 = .ok (.getfield 14, 3) := by decide +kernel
theorem dX3_against_56 : decode cX3_against 56 = .ok (.iconst 1, 1) := by decide +kernel
theorem dX3_against_57 : decode cX3_against 57 = .ok (.iaload, 1) := by decide +kernel
theorem dX3_against_58 : decode cX3_against 58 = .ok (.iload_n 2, 1) := by decide +kernel
theorem dX3_against_59 : decode cX3_against 59 = .ok (.aload_n 0, 1) := by decide +kernel
theorem dX3_against_60 : decode cX3_against 60 = .ok (.getfield 27, 3) := by decide +kernel
theorem dX3_against_63 : decode cX3_against 63 = .ok (.iload_n 1, 1) := by decide +kernel
theorem dX3_against_64 : decode cX3_against 64 = .ok (.aaload, 1) := by decide +kernel
theorem dX3_against_65 : decode cX3_against 65 = .ok (.iload_n 2, 1) := by decide +kernel
theorem dX3_against_66 : decode cX3_against 66 = .ok (.iaload, 1) := by decide +kernel
theorem dX3_against_67 : decode cX3_against 67 = .ok (.invokestatic 42, 3) := by decide +kernel
theorem dX3_against_70 : decode cX3_against 70 = .ok (.aload_n 0, 1) := by decide +kernel
theorem dX3_against_71 : decode cX3_against 71 = .ok (.getfield 27, 3) := by decide +kernel
theorem dX3_against_74 : decode cX3_against 74 = .ok (.iload_n 1, 1) := by decide +kernel
theorem dX3_against_75 : decode cX3_against 75 = .ok (.aaload, 1) := by decide +kernel
theorem dX3_against_76 : decode cX3_against 76 = .ok (.iload_n 2, 1) := by decide +kernel
theorem dX3_against_77 : decode cX3_against 77 = .ok (.iaload, 1) := by decide +kernel
theorem dX3_against_78 : decode cX3_against 78 = .ok (.iconst 1, 1) := by decide +kernel
theorem dX3_against_79 : decode cX3_against 79 = .ok (.iadd, 1) := by decide +kernel
theorem dX3_against_80 : decode cX3_against 80 = .ok (.imul, 1) := by decide +kernel
theorem dX3_against_81 : decode cX3_against 81 = .ok (.ireturn, 1) := by decide +kernel
set_option maxRecDepth 20000 in
theorem ggX3_repeat_X3_isHem : GoodIn wsX3_repeat wsX3_isHem := goodIn_r _ [5, 6, 7, 4, 8] (by decide +kernel) (by decide +kernel)
set_option maxRecDepth 20000 in
theorem gX3_repeat_X3_isHem : GoodIn wsX3_repeat (va_wsS RX3 38 yX3_isHem wsX3_isHem) := goodIn_app (goodIn_of _ (by decide +kernel)) ggX3_repeat_X3_isHem
set_option maxRecDepth 20000 in
theorem ggX3_repeat_X3_isIn : GoodIn wsX3_repeat wsX3_isIn := goodIn_r _ [8] (by decide +kernel) (by decide +kernel)
set_option maxRecDepth 20000 in
theorem gX3_repeat_X3_isIn : GoodIn wsX3_repeat (va_wsS RX3 34 yX3_isIn wsX3_isIn) := goodIn_app (goodIn_of _ (by decide +kernel)) ggX3_repeat_X3_isIn
set_option maxRecDepth 20000 in
theorem ggX3_repeat_X3_repeatTold : GoodIn wsX3_repeat wsX3_repeatTold := goodIn_r _ [12, 13, 14, 15, 16, 17, 4, 18, 19, 20, 21, 22, 23, 24, 25, 26, 27, 28, 29, 30, 31, 32, 33, 34, 35, 36, 37, 38, 39, 40, 41, 46, 47, 48, 49, 50, 51, 52, 53] (by decide +kernel) (by decide +kernel)
set_option maxRecDepth 20000 in
theorem gX3_repeat_X3_repeatTold : GoodIn wsX3_repeat (wsV RX3 120 RX3 yX3_repeatTold wsX3_repeatTold) := goodIn_app (goodIn_of _ (by decide +kernel)) ggX3_repeat_X3_repeatTold
set_option maxRecDepth 20000 in
theorem ggX3_repeat_X3_no : GoodIn wsX3_repeat wsX3_no := goodIn_r _ [45, 1, 46, 47, 48, 49, 50, 51, 52, 53] (by decide +kernel) (by decide +kernel)
set_option maxRecDepth 20000 in
theorem gX3_repeat_X3_no : GoodIn wsX3_repeat (wsV RX3 99 RX3 yX3_no wsX3_no) := goodIn_app (goodIn_of _ (by decide +kernel)) ggX3_repeat_X3_no
theorem dX3_repeat_0 : decode cX3_repeat 0 = .ok (.aload_n 0, 1) := by decide +kernel
theorem dX3_repeat_1 : decode cX3_repeat 1 = .ok (.iconst 0, 1) := by decide +kernel
theorem dX3_repeat_2 : decode cX3_repeat 2 = .ok (.putfield 30, 3) := by decide +kernel
theorem dX3_repeat_5 : decode cX3_repeat 5 = .ok (.iload_n 1, 1) := by decide +kernel
theorem dX3_repeat_6 : decode cX3_repeat 6 = .ok (.invokestatic 38, 3) := by decide +kernel
theorem dX3_repeat_9 : decode cX3_repeat 9 = .ok (.ifCond .eq 21, 3) := by decide +kernel
theorem dX3_repeat_12 : decode cX3_repeat 12 = .ok (.iload_n 2, 1) := by decide +kernel
theorem dX3_repeat_13 : decode cX3_repeat 13 = .ok (.iconst 0, 1) := by decide +kernel
theorem dX3_repeat_14 : decode cX3_repeat 14 = .ok (.iconst 2, 1) := by decide +kernel
theorem dX3_repeat_15 : decode cX3_repeat 15 = .ok (.invokestatic 34, 3) := by decide +kernel
theorem dX3_repeat_18 : decode cX3_repeat 18 = .ok (.ifCond .eq 12, 3) := by decide +kernel
theorem dX3_repeat_21 : decode cX3_repeat 21 = .ok (.aload_n 0, 1) := by decide +kernel
theorem dX3_repeat_22 : decode cX3_repeat 22 = .ok (.iload_n 1, 1) := by decide +kernel
theorem dX3_repeat_23 : decode cX3_repeat 23 = .ok (.iload_n 2, 1) := by decide +kernel
theorem dX3_repeat_24 : decode cX3_repeat 24 = .ok (.invokevirtual 120, 3) := by decide +kernel
theorem dX3_repeat_27 : decode cX3_repeat 27 = .ok (.goto 8, 3) := by decide +kernel
theorem dX3_repeat_30 : decode cX3_repeat 30 = .ok (.aload_n 0, 1) := by decide +kernel
theorem dX3_repeat_31 : decode cX3_repeat 31 = .ok (.iconst 1, 1) := by decide +kernel
theorem dX3_repeat_32 : decode cX3_repeat 32 = .ok (.invokevirtual 99, 3) := by decide +kernel
theorem dX3_repeat_35 : decode cX3_repeat 35 = .ok (.ireturn, 1) := by decide +kernel
set_option maxRecDepth 20000 in
theorem ggX3_row_X3_isHem : GoodIn wsX3_row wsX3_isHem := goodIn_r _ [8, 9, 10, 7, 11] (by decide +kernel) (by decide +kernel)
set_option maxRecDepth 20000 in
theorem gX3_row_X3_isHem : GoodIn wsX3_row (va_wsS RX3 38 yX3_isHem wsX3_isHem) := goodIn_app (goodIn_of _ (by decide +kernel)) ggX3_row_X3_isHem
set_option maxRecDepth 20000 in
theorem ggX3_row_X3_no : GoodIn wsX3_row wsX3_no := goodIn_r _ [15, 1, 43, 44, 45, 46, 47, 48, 49, 50] (by decide +kernel) (by decide +kernel)
set_option maxRecDepth 20000 in
theorem gX3_row_X3_no : GoodIn wsX3_row (wsV RX3 99 RX3 yX3_no wsX3_no) := goodIn_app (goodIn_of _ (by decide +kernel)) ggX3_row_X3_no
set_option maxRecDepth 20000 in
theorem ggX3_row_X3_order : GoodIn wsX3_row wsX3_order := goodIn_r _ [19, 2, 3, 20, 21, 22, 7, 23, 24, 4, 25, 26, 27, 28, 29, 30, 31, 32, 33, 34, 35, 36, 37, 38, 43, 44, 45, 46, 47, 48, 49, 50] (by decide +kernel) (by decide +kernel)
set_option maxRecDepth 20000 in
theorem gX3_row_X3_order : GoodIn wsX3_row (wsV RX3 117 RX3 yX3_order wsX3_order) := goodIn_app (goodIn_of _ (by decide +kernel)) ggX3_row_X3_order
set_option maxRecDepth 20000 in
theorem ggX3_row_X3_firstPlace : GoodIn wsX3_row wsX3_firstPlace := goodIn_r _ [42, 4, 43, 44, 45, 46, 47, 48, 49, 50] (by decide +kernel) (by decide +kernel)
set_option maxRecDepth 20000 in
theorem gX3_row_X3_firstPlace : GoodIn wsX3_row (wsV RX3 123 RX3 yX3_firstPlace wsX3_firstPlace) := goodIn_app (goodIn_of _ (by decide +kernel)) ggX3_row_X3_firstPlace
theorem dX3_row_0 : decode cX3_row 0 = .ok (.aload_n 0, 1) := by decide +kernel
theorem dX3_row_1 : decode cX3_row 1 = .ok (.iconst 0, 1) := by decide +kernel
theorem dX3_row_2 : decode cX3_row 2 = .ok (.putfield 30, 3) := by decide +kernel
theorem dX3_row_5 : decode cX3_row 5 = .ok (.iload_n 1, 1) := by decide +kernel
theorem dX3_row_6 : decode cX3_row 6 = .ok (.invokestatic 38, 3) := by decide +kernel
theorem dX3_row_9 : decode cX3_row 9 = .ok (.ifCond .eq 7, 3) := by decide +kernel
theorem dX3_row_12 : decode cX3_row 12 = .ok (.iload_n 2, 1) := by decide +kernel
theorem dX3_row_13 : decode cX3_row 13 = .ok (.ifCond .ge 9, 3) := by decide +kernel
theorem dX3_row_16 : decode cX3_row 16 = .ok (.aload_n 0, 1) := by decide +kernel
theorem dX3_row_17 : decode cX3_row 17 = .ok (.iconst 1, 1) := by decide +kernel
theorem dX3_row_18 : decode cX3_row 18 = .ok (.invokevirtual 99, 3) := by decide +kernel
theorem dX3_row_21 : decode cX3_row 21 = .ok (.ireturn, 1) := by decide +kernel
theorem dX3_row_22 : decode cX3_row 22 = .ok (.aload_n 0, 1) := by decide +kernel
theorem dX3_row_23 : decode cX3_row 23 = .ok (.iload_n 1, 1) := by decide +kernel
theorem dX3_row_24 : decode cX3_row 24 = .ok (.invokevirtual 117, 3) := by decide +kernel
theorem dX3_row_27 : decode cX3_row 27 = .ok (.iload_n 2, 1) := by decide +kernel
theorem dX3_row_28 : decode cX3_row 28 = .ok (.istore_n 3, 1) := by decide +kernel
theorem dX3_row_29 : decode cX3_row 29 = .ok (.iconst 0, 1) := by decide +kernel
theorem dX3_row_30 : decode cX3_row 30 = .ok (.istore 4, 2) := by decide +kernel
theorem dX3_row_32 : decode cX3_row 32 = .ok (.iload 4, 2) := by decide +kernel
theorem dX3_row_34 : decode cX3_row 34 = .ok (.aload_n 0, 1) := by decide +kernel
theorem dX3_row_35 : decode cX3_row 35 = .ok (.getfield 14, 3) := by decide +kernel
theorem dX3_row_38 : decode cX3_row 38 = .ok (.iload_n 1, 1) := by decide +kernel
theorem dX3_row_39 : decode cX3_row 39 = .ok (.iaload, 1) := by decide +kernel
theorem dX3_row_40 : decode cX3_row 40 = .ok (.if_icmp .ge 94, 3) := by decide +kernel
theorem dX3_row_43 : decode cX3_row 43 = .ok (.aload_n 0, 1) := by decide +kernel
theorem dX3_row_44 : decode cX3_row 44 = .ok (.getfield 24, 3) := by decide +kernel
theorem dX3_row_47 : decode cX3_row 47 = .ok (.iload 4, 2) := by decide +kernel
theorem dX3_row_49 : decode cX3_row 49 = .ok (.iaload, 1) := by decide +kernel
theorem dX3_row_50 : decode cX3_row 50 = .ok (.istore 5, 2) := by decide +kernel
theorem dX3_row_52 : decode cX3_row 52 = .ok (.iload 4, 2) := by decide +kernel
theorem dX3_row_54 : decode cX3_row 54 = .ok (.ifCond .ne 7, 3) := by decide +kernel
theorem dX3_row_57 : decode cX3_row 57 = .ok (.iconst 0, 1) := by decide +kernel
theorem dX3_row_58 : decode cX3_row 58 = .ok (.goto 20, 3) := by decide +kernel
theorem dX3_row_61 : decode cX3_row 61 = .ok (.aload_n 0, 1) := by decide +kernel
theorem dX3_row_62 : decode cX3_row 62 = .ok (.getfield 21, 3) := by decide +kernel
theorem dX3_row_65 : decode cX3_row 65 = .ok (.iload 5, 2) := by decide +kernel
theorem dX3_row_67 : decode cX3_row 67 = .ok (.aaload, 1) := by decide +kernel
theorem dX3_row_68 : decode cX3_row 68 = .ok (.aload_n 0, 1) := by decide +kernel
theorem dX3_row_69 : decode cX3_row 69 = .ok (.getfield 24, 3) := by decide +kernel
theorem dX3_row_72 : decode cX3_row 72 = .ok (.iload 4, 2) := by decide +kernel
theorem dX3_row_74 : decode cX3_row 74 = .ok (.iconst 1, 1) := by decide +kernel
theorem dX3_row_75 : decode cX3_row 75 = .ok (.isub, 1) := by decide +kernel
theorem dX3_row_76 : decode cX3_row 76 = .ok (.iaload, 1) := by decide +kernel
theorem dX3_row_77 : decode cX3_row 77 = .ok (.iaload, 1) := by decide +kernel
theorem dX3_row_78 : decode cX3_row 78 = .ok (.istore 6, 2) := by decide +kernel
theorem dX3_row_80 : decode cX3_row 80 = .ok (.aload_n 0, 1) := by decide +kernel
theorem dX3_row_81 : decode cX3_row 81 = .ok (.getfield 14, 3) := by decide +kernel
theorem dX3_row_84 : decode cX3_row 84 = .ok (.iload_n 1, 1) := by decide +kernel
theorem dX3_row_85 : decode cX3_row 85 = .ok (.iaload, 1) := by decide +kernel
theorem dX3_row_86 : decode cX3_row 86 = .ok (.iload 5, 2) := by decide +kernel
theorem dX3_row_88 : decode cX3_row 88 = .ok (.isub, 1) := by decide +kernel
theorem dX3_row_89 : decode cX3_row 89 = .ok (.iload 6, 2) := by decide +kernel
theorem dX3_row_91 : decode cX3_row 91 = .ok (.isub, 1) := by decide +kernel
theorem dX3_row_92 : decode cX3_row 92 = .ok (.istore 7, 2) := by decide +kernel
theorem dX3_row_94 : decode cX3_row 94 = .ok (.iload_n 3, 1) := by decide +kernel
theorem dX3_row_95 : decode cX3_row 95 = .ok (.iload 7, 2) := by decide +kernel
theorem dX3_row_97 : decode cX3_row 97 = .ok (.if_icmp .ge 26, 3) := by decide +kernel
theorem dX3_row_100 : decode cX3_row 100 = .ok (.bipush 64, 2) := by decide +kernel
theorem dX3_row_102 : decode cX3_row 102 = .ok (.aload_n 0, 1) := by decide +kernel
theorem dX3_row_103 : decode cX3_row 103 = .ok (.iload 5, 2) := by decide +kernel
theorem dX3_row_105 : decode cX3_row 105 = .ok (.iload 6, 2) := by decide +kernel
theorem dX3_row_107 : decode cX3_row 107 = .ok (.iload_n 3, 1) := by decide +kernel
theorem dX3_row_108 : decode cX3_row 108 = .ok (.iadd, 1) := by decide +kernel
theorem dX3_row_109 : decode cX3_row 109 = .ok (.iconst 1, 1) := by decide +kernel
theorem dX3_row_110 : decode cX3_row 110 = .ok (.iadd, 1) := by decide +kernel
theorem dX3_row_111 : decode cX3_row 111 = .ok (.invokevirtual 123, 3) := by decide +kernel
theorem dX3_row_114 : decode cX3_row 114 = .ok (.imul, 1) := by decide +kernel
theorem dX3_row_115 : decode cX3_row 115 = .ok (.iload 6, 2) := by decide +kernel
theorem dX3_row_117 : decode cX3_row 117 = .ok (.iadd, 1) := by decide +kernel
theorem dX3_row_118 : decode cX3_row 118 = .ok (.iload_n 3, 1) := by decide +kernel
theorem dX3_row_119 : decode cX3_row 119 = .ok (.iadd, 1) := by decide +kernel
theorem dX3_row_120 : decode cX3_row 120 = .ok (.iconst 1, 1) := by decide +kernel
theorem dX3_row_121 : decode cX3_row 121 = .ok (.iadd, 1) := by decide +kernel
theorem dX3_row_122 : decode cX3_row 122 = .ok (.ireturn, 1) := by decide +kernel
theorem dX3_row_123 : decode cX3_row 123 = .ok (.iload_n 3, 1) := by decide +kernel
theorem dX3_row_124 : decode cX3_row 124 = .ok (.iload 7, 2) := by decide +kernel
theorem dX3_row_126 : decode cX3_row 126 = .ok (.isub, 1) := by decide +kernel
theorem dX3_row_127 : decode cX3_row 127 = .ok (.istore_n 3, 1) := by decide +kernel
theorem dX3_row_128 : decode cX3_row 128 = .ok (.iinc 4 1, 3) := by decide +kernel
theorem dX3_row_131 : decode cX3_row 131 = .ok (.goto (-99), 3) := by decide +kernel
theorem dX3_row_134 : decode cX3_row 134 = .ok (.aload_n 0, 1) := by decide +kernel
theorem dX3_row_135 : decode cX3_row 135 = .ok (.iconst 1, 1) := by decide +kernel
theorem dX3_row_136 : decode cX3_row 136 = .ok (.invokevirtual 99, 3) := by decide +kernel
theorem dX3_row_139 : decode cX3_row 139 = .ok (.ireturn, 1) := by decide +kernel
set_option maxRecDepth 20000 in
theorem ggX3_found_X3_isHem : GoodIn wsX3_found wsX3_isHem := goodIn_r _ [5, 6, 7, 4, 8] (by decide +kernel) (by decide +kernel)
set_option maxRecDepth 20000 in
theorem gX3_found_X3_isHem : GoodIn wsX3_found (va_wsS RX3 38 yX3_isHem wsX3_isHem) := goodIn_app (goodIn_of _ (by decide +kernel)) ggX3_found_X3_isHem
set_option maxRecDepth 20000 in
theorem ggX3_found_X3_foundIn : GoodIn wsX3_found wsX3_foundIn := goodIn_r _ [12, 13, 14, 15, 16, 4, 17, 18, 19, 20, 25, 26, 27, 28, 29, 30, 31, 32] (by decide +kernel) (by decide +kernel)
set_option maxRecDepth 20000 in
theorem gX3_found_X3_foundIn : GoodIn wsX3_found (wsV RX3 126 RX3 yX3_foundIn wsX3_foundIn) := goodIn_app (goodIn_of _ (by decide +kernel)) ggX3_found_X3_foundIn
set_option maxRecDepth 20000 in
theorem ggX3_found_X3_no : GoodIn wsX3_found wsX3_no := goodIn_r _ [24, 1, 25, 26, 27, 28, 29, 30, 31, 32] (by decide +kernel) (by decide +kernel)
set_option maxRecDepth 20000 in
theorem gX3_found_X3_no : GoodIn wsX3_found (wsV RX3 99 RX3 yX3_no wsX3_no) := goodIn_app (goodIn_of _ (by decide +kernel)) ggX3_found_X3_no
theorem dX3_found_0 : decode cX3_found 0 = .ok (.aload_n 0, 1) := by decide +kernel
theorem dX3_found_1 : decode cX3_found 1 = .ok (.iconst 0, 1) := by decide +kernel
theorem dX3_found_2 : decode cX3_found 2 = .ok (.putfield 30, 3) := by decide +kernel
theorem dX3_found_5 : decode cX3_found 5 = .ok (.iload_n 1, 1) := by decide +kernel
theorem dX3_found_6 : decode cX3_found 6 = .ok (.invokestatic 38, 3) := by decide +kernel
theorem dX3_found_9 : decode cX3_found 9 = .ok (.ifCond .eq 11, 3) := by decide +kernel
theorem dX3_found_12 : decode cX3_found 12 = .ok (.aload_n 0, 1) := by decide +kernel
theorem dX3_found_13 : decode cX3_found 13 = .ok (.iload_n 1, 1) := by decide +kernel
theorem dX3_found_14 : decode cX3_found 14 = .ok (.invokevirtual 126, 3) := by decide +kernel
theorem dX3_found_17 : decode cX3_found 17 = .ok (.goto 8, 3) := by decide +kernel
theorem dX3_found_20 : decode cX3_found 20 = .ok (.aload_n 0, 1) := by decide +kernel
theorem dX3_found_21 : decode cX3_found 21 = .ok (.iconst 1, 1) := by decide +kernel
theorem dX3_found_22 : decode cX3_found 22 = .ok (.invokevirtual 99, 3) := by decide +kernel
theorem dX3_found_25 : decode cX3_found 25 = .ok (.ireturn, 1) := by decide +kernel
set_option maxRecDepth 20000 in
theorem ggX3_first_X3_isHem : GoodIn wsX3_first wsX3_isHem := goodIn_r _ [6, 7, 8, 5, 9] (by decide +kernel) (by decide +kernel)
set_option maxRecDepth 20000 in
theorem gX3_first_X3_isHem : GoodIn wsX3_first (va_wsS RX3 38 yX3_isHem wsX3_isHem) := goodIn_app (goodIn_of _ (by decide +kernel)) ggX3_first_X3_isHem
set_option maxRecDepth 20000 in
theorem ggX3_first_X3_no : GoodIn wsX3_first wsX3_no := goodIn_r _ [13, 1, 21, 22, 23, 24, 25, 26, 27, 28] (by decide +kernel) (by decide +kernel)
set_option maxRecDepth 20000 in
theorem gX3_first_X3_no : GoodIn wsX3_first (wsV RX3 99 RX3 yX3_no wsX3_no) := goodIn_app (goodIn_of _ (by decide +kernel)) ggX3_first_X3_no
set_option maxRecDepth 20000 in
theorem ggX3_first_X3_isSampleAt : GoodIn wsX3_first wsX3_isSampleAt := goodIn_r _ [17, 18, 2, 19, 20, 21, 22, 23, 24, 25, 26, 27, 28] (by decide +kernel) (by decide +kernel)
set_option maxRecDepth 20000 in
theorem gX3_first_X3_isSampleAt : GoodIn wsX3_first (wsV RX3 86 RX3 yX3_isSampleAt wsX3_isSampleAt) := goodIn_app (goodIn_of _ (by decide +kernel)) ggX3_first_X3_isSampleAt
theorem dX3_first_0 : decode cX3_first 0 = .ok (.aload_n 0, 1) := by decide +kernel
theorem dX3_first_1 : decode cX3_first 1 = .ok (.iconst 0, 1) := by decide +kernel
theorem dX3_first_2 : decode cX3_first 2 = .ok (.putfield 30, 3) := by decide +kernel
theorem dX3_first_5 : decode cX3_first 5 = .ok (.iload_n 1, 1) := by decide +kernel
theorem dX3_first_6 : decode cX3_first 6 = .ok (.invokestatic 38, 3) := by decide +kernel
theorem dX3_first_9 : decode cX3_first 9 = .ok (.ifCond .ne 9, 3) := by decide +kernel
theorem dX3_first_12 : decode cX3_first 12 = .ok (.aload_n 0, 1) := by decide +kernel
theorem dX3_first_13 : decode cX3_first 13 = .ok (.iconst 1, 1) := by decide +kernel
theorem dX3_first_14 : decode cX3_first 14 = .ok (.invokevirtual 99, 3) := by decide +kernel
theorem dX3_first_17 : decode cX3_first 17 = .ok (.ireturn, 1) := by decide +kernel
theorem dX3_first_18 : decode cX3_first 18 = .ok (.iconst 0, 1) := by decide +kernel
theorem dX3_first_19 : decode cX3_first 19 = .ok (.istore_n 2, 1) := by decide +kernel
theorem dX3_first_20 : decode cX3_first 20 = .ok (.iload_n 2, 1) := by decide +kernel
theorem dX3_first_21 : decode cX3_first 21 = .ok (.aload_n 0, 1) := by decide +kernel
theorem dX3_first_22 : decode cX3_first 22 = .ok (.getfield 14, 3) := by decide +kernel
theorem dX3_first_25 : decode cX3_first 25 = .ok (.iload_n 1, 1) := by decide +kernel
theorem dX3_first_26 : decode cX3_first 26 = .ok (.iaload, 1) := by decide +kernel
theorem dX3_first_27 : decode cX3_first 27 = .ok (.if_icmp .ge 20, 3) := by decide +kernel
theorem dX3_first_30 : decode cX3_first 30 = .ok (.aload_n 0, 1) := by decide +kernel
theorem dX3_first_31 : decode cX3_first 31 = .ok (.iload_n 1, 1) := by decide +kernel
theorem dX3_first_32 : decode cX3_first 32 = .ok (.iload_n 2, 1) := by decide +kernel
theorem dX3_first_33 : decode cX3_first 33 = .ok (.invokevirtual 86, 3) := by decide +kernel
theorem dX3_first_36 : decode cX3_first 36 = .ok (.ifCond .eq 5, 3) := by decide +kernel
theorem dX3_first_39 : decode cX3_first 39 = .ok (.iload_n 2, 1) := by decide +kernel
theorem dX3_first_40 : decode cX3_first 40 = .ok (.ireturn, 1) := by decide +kernel
theorem dX3_first_41 : decode cX3_first 41 = .ok (.iinc 2 1, 3) := by decide +kernel
theorem dX3_first_44 : decode cX3_first 44 = .ok (.goto (-24), 3) := by decide +kernel
theorem dX3_first_47 : decode cX3_first 47 = .ok (.iconst (-1), 1) := by decide +kernel
theorem dX3_first_48 : decode cX3_first 48 = .ok (.ireturn, 1) := by decide +kernel
set_option maxRecDepth 20000 in
theorem ggX3_period_X3_isHem : GoodIn wsX3_period wsX3_isHem := goodIn_r _ [5, 6, 7, 4, 8] (by decide +kernel) (by decide +kernel)
set_option maxRecDepth 20000 in
theorem gX3_period_X3_isHem : GoodIn wsX3_period (va_wsS RX3 38 yX3_isHem wsX3_isHem) := goodIn_app (goodIn_of _ (by decide +kernel)) ggX3_period_X3_isHem
set_option maxRecDepth 20000 in
theorem ggX3_period_X3_periodOf : GoodIn wsX3_period wsX3_periodOf := goodIn_r _ [12, 13, 14, 15, 16, 17, 18, 19, 20, 4, 21, 22, 27, 28, 29, 30, 31, 32, 33, 34] (by decide +kernel) (by decide +kernel)
set_option maxRecDepth 20000 in
theorem gX3_period_X3_periodOf : GoodIn wsX3_period (wsV RX3 129 RX3 yX3_periodOf wsX3_periodOf) := goodIn_app (goodIn_of _ (by decide +kernel)) ggX3_period_X3_periodOf
set_option maxRecDepth 20000 in
theorem ggX3_period_X3_no : GoodIn wsX3_period wsX3_no := goodIn_r _ [26, 1, 27, 28, 29, 30, 31, 32, 33, 34] (by decide +kernel) (by decide +kernel)
set_option maxRecDepth 20000 in
theorem gX3_period_X3_no : GoodIn wsX3_period (wsV RX3 99 RX3 yX3_no wsX3_no) := goodIn_app (goodIn_of _ (by decide +kernel)) ggX3_period_X3_no
theorem dX3_period_0 : decode cX3_period 0 = .ok (.aload_n 0, 1) := by decide +kernel
theorem dX3_period_1 : decode cX3_period 1 = .ok (.iconst 0, 1) := by decide +kernel
theorem dX3_period_2 : decode cX3_period 2 = .ok (.putfield 30, 3) := by decide +kernel
theorem dX3_period_5 : decode cX3_period 5 = .ok (.iload_n 1, 1) := by decide +kernel
theorem dX3_period_6 : decode cX3_period 6 = .ok (.invokestatic 38, 3) := by decide +kernel
theorem dX3_period_9 : decode cX3_period 9 = .ok (.ifCond .eq 11, 3) := by decide +kernel
theorem dX3_period_12 : decode cX3_period 12 = .ok (.aload_n 0, 1) := by decide +kernel
theorem dX3_period_13 : decode cX3_period 13 = .ok (.iload_n 1, 1) := by decide +kernel
theorem dX3_period_14 : decode cX3_period 14 = .ok (.invokevirtual 129, 3) := by decide +kernel
theorem dX3_period_17 : decode cX3_period 17 = .ok (.goto 8, 3) := by decide +kernel
theorem dX3_period_20 : decode cX3_period 20 = .ok (.aload_n 0, 1) := by decide +kernel
theorem dX3_period_21 : decode cX3_period 21 = .ok (.iconst 1, 1) := by decide +kernel
theorem dX3_period_22 : decode cX3_period 22 = .ok (.invokevirtual 99, 3) := by decide +kernel
theorem dX3_period_25 : decode cX3_period 25 = .ok (.ireturn, 1) := by decide +kernel
set_option maxRecDepth 20000 in
theorem ggX3_turned_X3_isHem : GoodIn wsX3_turned wsX3_isHem := goodIn_r _ [5, 6, 7, 4, 8] (by decide +kernel) (by decide +kernel)
set_option maxRecDepth 20000 in
theorem gX3_turned_X3_isHem : GoodIn wsX3_turned (va_wsS RX3 38 yX3_isHem wsX3_isHem) := goodIn_app (goodIn_of _ (by decide +kernel)) ggX3_turned_X3_isHem
set_option maxRecDepth 20000 in
theorem ggX3_turned_X3_turnedOf : GoodIn wsX3_turned wsX3_turnedOf := goodIn_r _ [12, 13, 14, 15, 16, 4, 17, 18, 23, 24, 25, 26, 27, 28, 29, 30] (by decide +kernel) (by decide +kernel)
set_option maxRecDepth 20000 in
theorem gX3_turned_X3_turnedOf : GoodIn wsX3_turned (wsV RX3 132 RX3 yX3_turnedOf wsX3_turnedOf) := goodIn_app (goodIn_of _ (by decide +kernel)) ggX3_turned_X3_turnedOf
set_option maxRecDepth 20000 in
theorem ggX3_turned_X3_no : GoodIn wsX3_turned wsX3_no := goodIn_r _ [22, 1, 23, 24, 25, 26, 27, 28, 29, 30] (by decide +kernel) (by decide +kernel)
set_option maxRecDepth 20000 in
theorem gX3_turned_X3_no : GoodIn wsX3_turned (wsV RX3 99 RX3 yX3_no wsX3_no) := goodIn_app (goodIn_of _ (by decide +kernel)) ggX3_turned_X3_no
theorem dX3_turned_0 : decode cX3_turned 0 = .ok (.aload_n 0, 1) := by decide +kernel
theorem dX3_turned_1 : decode cX3_turned 1 = .ok (.iconst 0, 1) := by decide +kernel
theorem dX3_turned_2 : decode cX3_turned 2 = .ok (.putfield 30, 3) := by decide +kernel
theorem dX3_turned_5 : decode cX3_turned 5 = .ok (.iload_n 1, 1) := by decide +kernel
theorem dX3_turned_6 : decode cX3_turned 6 = .ok (.invokestatic 38, 3) := by decide +kernel
theorem dX3_turned_9 : decode cX3_turned 9 = .ok (.ifCond .eq 11, 3) := by decide +kernel
theorem dX3_turned_12 : decode cX3_turned 12 = .ok (.aload_n 0, 1) := by decide +kernel
theorem dX3_turned_13 : decode cX3_turned 13 = .ok (.iload_n 1, 1) := by decide +kernel
theorem dX3_turned_14 : decode cX3_turned 14 = .ok (.invokevirtual 132, 3) := by decide +kernel
theorem dX3_turned_17 : decode cX3_turned 17 = .ok (.goto 8, 3) := by decide +kernel
theorem dX3_turned_20 : decode cX3_turned 20 = .ok (.aload_n 0, 1) := by decide +kernel
theorem dX3_turned_21 : decode cX3_turned 21 = .ok (.iconst 1, 1) := by decide +kernel
theorem dX3_turned_22 : decode cX3_turned 22 = .ok (.invokevirtual 99, 3) := by decide +kernel
theorem dX3_turned_25 : decode cX3_turned 25 = .ok (.ireturn, 1) := by decide +kernel
set_option maxRecDepth 20000 in
theorem ggX3_seam_X3_isIn : GoodIn wsX3_seam wsX3_isIn := goodIn_r _ [5] (by decide +kernel) (by decide +kernel)
set_option maxRecDepth 20000 in
theorem gX3_seam_X3_isIn : GoodIn wsX3_seam (va_wsS RX3 34 yX3_isIn wsX3_isIn) := goodIn_app (goodIn_of _ (by decide +kernel)) ggX3_seam_X3_isIn
set_option maxRecDepth 20000 in
theorem ggX3_seam_X3_seamTold : GoodIn wsX3_seam wsX3_seamTold := goodIn_r _ [9, 10, 11, 12, 13, 14, 15, 4, 16, 17, 18, 19, 20, 21, 22, 23, 24, 25, 26, 27, 28, 29, 30, 31, 32, 33, 34, 35, 36, 37, 38, 39, 44, 45, 46, 47, 48, 49, 50, 51] (by decide +kernel) (by decide +kernel)
set_option maxRecDepth 20000 in
theorem gX3_seam_X3_seamTold : GoodIn wsX3_seam (wsV RX3 111 RX3 yX3_seamTold wsX3_seamTold) := goodIn_app (goodIn_of _ (by decide +kernel)) ggX3_seam_X3_seamTold
set_option maxRecDepth 20000 in
theorem ggX3_seam_X3_no : GoodIn wsX3_seam wsX3_no := goodIn_r _ [43, 1, 44, 45, 46, 47, 48, 49, 50, 51] (by decide +kernel) (by decide +kernel)
set_option maxRecDepth 20000 in
theorem gX3_seam_X3_no : GoodIn wsX3_seam (wsV RX3 99 RX3 yX3_no wsX3_no) := goodIn_app (goodIn_of _ (by decide +kernel)) ggX3_seam_X3_no
theorem dX3_seam_0 : decode cX3_seam 0 = .ok (.aload_n 0, 1) := by decide +kernel
theorem dX3_seam_1 : decode cX3_seam 1 = .ok (.iconst 0, 1) := by decide +kernel
theorem dX3_seam_2 : decode cX3_seam 2 = .ok (.putfield 30, 3) := by decide +kernel
theorem dX3_seam_5 : decode cX3_seam 5 = .ok (.iload_n 1, 1) := by decide +kernel
theorem dX3_seam_6 : decode cX3_seam 6 = .ok (.iconst 0, 1) := by decide +kernel
theorem dX3_seam_7 : decode cX3_seam 7 = .ok (.iconst 2, 1) := by decide +kernel
theorem dX3_seam_8 : decode cX3_seam 8 = .ok (.invokestatic 34, 3) := by decide +kernel
theorem dX3_seam_11 : decode cX3_seam 11 = .ok (.ifCond .eq 11, 3) := by decide +kernel
theorem dX3_seam_14 : decode cX3_seam 14 = .ok (.aload_n 0, 1) := by decide +kernel
theorem dX3_seam_15 : decode cX3_seam 15 = .ok (.iload_n 1, 1) := by decide +kernel
theorem dX3_seam_16 : decode cX3_seam 16 = .ok (.invokevirtual 111, 3) := by decide +kernel
theorem dX3_seam_19 : decode cX3_seam 19 = .ok (.goto 8, 3) := by decide +kernel
theorem dX3_seam_22 : decode cX3_seam 22 = .ok (.aload_n 0, 1) := by decide +kernel
theorem dX3_seam_23 : decode cX3_seam 23 = .ok (.iconst 1, 1) := by decide +kernel
theorem dX3_seam_24 : decode cX3_seam 24 = .ok (.invokevirtual 99, 3) := by decide +kernel
theorem dX3_seam_27 : decode cX3_seam 27 = .ok (.ireturn, 1) := by decide +kernel
set_option maxRecDepth 20000 in
theorem ggX3_would_X3_isHem : GoodIn wsX3_would wsX3_isHem := goodIn_r _ [5, 6, 7, 4, 8] (by decide +kernel) (by decide +kernel)
set_option maxRecDepth 20000 in
theorem gX3_would_X3_isHem : GoodIn wsX3_would (va_wsS RX3 38 yX3_isHem wsX3_isHem) := goodIn_app (goodIn_of _ (by decide +kernel)) ggX3_would_X3_isHem
set_option maxRecDepth 20000 in
theorem ggX3_would_X3_no : GoodIn wsX3_would wsX3_no := goodIn_r _ [12, 1, 26, 27, 28, 29, 30, 31, 32, 33] (by decide +kernel) (by decide +kernel)
set_option maxRecDepth 20000 in
theorem gX3_would_X3_no : GoodIn wsX3_would (wsV RX3 99 RX3 yX3_no wsX3_no) := goodIn_app (goodIn_of _ (by decide +kernel)) ggX3_would_X3_no
set_option maxRecDepth 20000 in
theorem ggX3_would_X3_isStitch : GoodIn wsX3_would wsX3_isStitch := goodIn_r _ [15, 6, 7, 4, 8] (by decide +kernel) (by decide +kernel)
set_option maxRecDepth 20000 in
theorem gX3_would_X3_isStitch : GoodIn wsX3_would (va_wsS RX3 102 yX3_isStitch wsX3_isStitch) := goodIn_app (goodIn_of _ (by decide +kernel)) ggX3_would_X3_isStitch
set_option maxRecDepth 20000 in
theorem ggX3_would_X3_more : GoodIn wsX3_would wsX3_more := goodIn_r _ [19, 20, 21, 22, 23, 24, 25, 26, 27, 28, 29, 30, 31, 32, 33] (by decide +kernel) (by decide +kernel)
set_option maxRecDepth 20000 in
theorem gX3_would_X3_more : GoodIn wsX3_would (wsV RX3 135 RX3 yX3_more wsX3_more) := goodIn_app (goodIn_of _ (by decide +kernel)) ggX3_would_X3_more
theorem dX3_would_0 : decode cX3_would 0 = .ok (.aload_n 0, 1) := by decide +kernel
theorem dX3_would_1 : decode cX3_would 1 = .ok (.iconst 0, 1) := by decide +kernel
theorem dX3_would_2 : decode cX3_would 2 = .ok (.putfield 30, 3) := by decide +kernel
theorem dX3_would_5 : decode cX3_would 5 = .ok (.iload_n 1, 1) := by decide +kernel
theorem dX3_would_6 : decode cX3_would 6 = .ok (.invokestatic 38, 3) := by decide +kernel
theorem dX3_would_9 : decode cX3_would 9 = .ok (.ifCond .ne 9, 3) := by decide +kernel
theorem dX3_would_12 : decode cX3_would 12 = .ok (.aload_n 0, 1) := by decide +kernel
theorem dX3_would_13 : decode cX3_would 13 = .ok (.iconst 1, 1) := by decide +kernel
theorem dX3_would_14 : decode cX3_would 14 = .ok (.invokevirtual 99, 3) := by decide +kernel
theorem dX3_would_17 : decode cX3_would 17 = .ok (.ireturn, 1) := by decide +kernel
theorem dX3_would_18 : decode cX3_would 18 = .ok (.iload_n 2, 1) := by decide +kernel
theorem dX3_would_19 : decode cX3_would 19 = .ok (.invokestatic 102, 3) := by decide +kernel
theorem dX3_would_22 : decode cX3_would 22 = .ok (.ifCond .eq 12, 3) := by decide +kernel
theorem dX3_would_25 : decode cX3_would 25 = .ok (.aload_n 0, 1) := by decide +kernel
theorem dX3_would_26 : decode cX3_would 26 = .ok (.iload_n 1, 1) := by decide +kernel
theorem dX3_would_27 : decode cX3_would 27 = .ok (.iload_n 2, 1) := by decide +kernel
theorem dX3_would_28 : decode cX3_would 28 = .ok (.invokevirtual 135, 3) := by decide +kernel
theorem dX3_would_31 : decode cX3_would 31 = .ok (.goto 8, 3) := by decide +kernel
theorem dX3_would_34 : decode cX3_would 34 = .ok (.aload_n 0, 1) := by decide +kernel
theorem dX3_would_35 : decode cX3_would 35 = .ok (.iconst 2, 1) := by decide +kernel
theorem dX3_would_36 : decode cX3_would 36 = .ok (.invokevirtual 99, 3) := by decide +kernel
theorem dX3_would_39 : decode cX3_would 39 = .ok (.ireturn, 1) := by decide +kernel
set_option maxRecDepth 20000 in
theorem ggX3_advise_X3_isHem : GoodIn wsX3_advise wsX3_isHem := goodIn_r _ [5, 6, 7, 4, 8] (by decide +kernel) (by decide +kernel)
set_option maxRecDepth 20000 in
theorem gX3_advise_X3_isHem : GoodIn wsX3_advise (va_wsS RX3 38 yX3_isHem wsX3_isHem) := goodIn_app (goodIn_of _ (by decide +kernel)) ggX3_advise_X3_isHem
set_option maxRecDepth 20000 in
theorem ggX3_advise_X3_no : GoodIn wsX3_advise wsX3_no := goodIn_r _ [12, 1, 23, 24, 25, 26, 27, 28, 29, 30] (by decide +kernel) (by decide +kernel)
set_option maxRecDepth 20000 in
theorem gX3_advise_X3_no : GoodIn wsX3_advise (wsV RX3 99 RX3 yX3_no wsX3_no) := goodIn_app (goodIn_of _ (by decide +kernel)) ggX3_advise_X3_no
set_option maxRecDepth 20000 in
theorem ggX3_advise_X3_more : GoodIn wsX3_advise wsX3_more := goodIn_r _ [16, 17, 18, 19, 20, 21, 22, 23, 24, 25, 26, 27, 28, 29, 30] (by decide +kernel) (by decide +kernel)
set_option maxRecDepth 20000 in
theorem gX3_advise_X3_more : GoodIn wsX3_advise (wsV RX3 135 RX3 yX3_more wsX3_more) := goodIn_app (goodIn_of _ (by decide +kernel)) ggX3_advise_X3_more
theorem dX3_advise_0 : decode cX3_advise 0 = .ok (.aload_n 0, 1) := by decide +kernel
theorem dX3_advise_1 : decode cX3_advise 1 = .ok (.iconst 0, 1) := by decide +kernel
theorem dX3_advise_2 : decode cX3_advise 2 = .ok (.putfield 30, 3) := by decide +kernel
theorem dX3_advise_5 : decode cX3_advise 5 = .ok (.iload_n 1, 1) := by decide +kernel
theorem dX3_advise_6 : decode cX3_advise 6 = .ok (.invokestatic 38, 3) := by decide +kernel
theorem dX3_advise_9 : decode cX3_advise 9 = .ok (.ifCond .ne 9, 3) := by decide +kernel
theorem dX3_advise_12 : decode cX3_advise 12 = .ok (.aload_n 0, 1) := by decide +kernel
theorem dX3_advise_13 : decode cX3_advise 13 = .ok (.iconst 1, 1) := by decide +kernel
theorem dX3_advise_14 : decode cX3_advise 14 = .ok (.invokevirtual 99, 3) := by decide +kernel
theorem dX3_advise_17 : decode cX3_advise 17 = .ok (.ireturn, 1) := by decide +kernel
theorem dX3_advise_18 : decode cX3_advise 18 = .ok (.iconst 0, 1) := by decide +kernel
theorem dX3_advise_19 : decode cX3_advise 19 = .ok (.istore_n 2, 1) := by decide +kernel
theorem dX3_advise_20 : decode cX3_advise 20 = .ok (.iconst 1, 1) := by decide +kernel
theorem dX3_advise_21 : decode cX3_advise 21 = .ok (.istore_n 3, 1) := by decide +kernel
theorem dX3_advise_22 : decode cX3_advise 22 = .ok (.iload_n 3, 1) := by decide +kernel
theorem dX3_advise_23 : decode cX3_advise 23 = .ok (.bipush 9, 2) := by decide +kernel
theorem dX3_advise_25 : decode cX3_advise 25 = .ok (.if_icmp .ge 26, 3) := by decide +kernel
theorem dX3_advise_28 : decode cX3_advise 28 = .ok (.aload_n 0, 1) := by decide +kernel
theorem dX3_advise_29 : decode cX3_advise 29 = .ok (.iload_n 1, 1) := by decide +kernel
theorem dX3_advise_30 : decode cX3_advise 30 = .ok (.iload_n 3, 1) := by decide +kernel
theorem dX3_advise_31 : decode cX3_advise 31 = .ok (.invokevirtual 135, 3) := by decide +kernel
theorem dX3_advise_34 : decode cX3_advise 34 = .ok (.aload_n 0, 1) := by decide +kernel
theorem dX3_advise_35 : decode cX3_advise 35 = .ok (.iload_n 1, 1) := by decide +kernel
theorem dX3_advise_36 : decode cX3_advise 36 = .ok (.iload_n 2, 1) := by decide +kernel
theorem dX3_advise_37 : decode cX3_advise 37 = .ok (.invokevirtual 135, 3) := by decide +kernel
theorem dX3_advise_40 : decode cX3_advise 40 = .ok (.if_icmp .ge 5, 3) := by decide +kernel
theorem dX3_advise_43 : decode cX3_advise 43 = .ok (.iload_n 3, 1) := by decide +kernel
theorem dX3_advise_44 : decode cX3_advise 44 = .ok (.istore_n 2, 1) := by decide +kernel
theorem dX3_advise_45 : decode cX3_advise 45 = .ok (.iinc 3 1, 3) := by decide +kernel
theorem dX3_advise_48 : decode cX3_advise 48 = .ok (.goto (-26), 3) := by decide +kernel
theorem dX3_advise_51 : decode cX3_advise 51 = .ok (.iload_n 2, 1) := by decide +kernel
theorem dX3_advise_52 : decode cX3_advise 52 = .ok (.ireturn, 1) := by decide +kernel
set_option maxRecDepth 20000 in
theorem ggX3_mean_X3_order : GoodIn wsX3_mean wsX3_order := goodIn_r _ [9, 2, 4, 10, 11, 12, 8, 13, 14, 3, 15, 16, 17, 18, 19, 20, 21, 22, 23, 24, 25, 26, 27, 28, 29, 30, 31, 32, 33, 34, 35, 36] (by decide +kernel) (by decide +kernel)
set_option maxRecDepth 20000 in
theorem gX3_mean_X3_order : GoodIn wsX3_mean (wsV RX3 117 RX3 yX3_order wsX3_order) := goodIn_app (goodIn_of _ (by decide +kernel)) ggX3_mean_X3_order
theorem dX3_mean_0 : decode cX3_mean 0 = .ok (.aload_n 0, 1) := by decide +kernel
theorem dX3_mean_1 : decode cX3_mean 1 = .ok (.iconst 0, 1) := by decide +kernel
theorem dX3_mean_2 : decode cX3_mean 2 = .ok (.putfield 30, 3) := by decide +kernel
theorem dX3_mean_5 : decode cX3_mean 5 = .ok (.iconst 0, 1) := by decide +kernel
theorem dX3_mean_6 : decode cX3_mean 6 = .ok (.istore_n 1, 1) := by decide +kernel
theorem dX3_mean_7 : decode cX3_mean 7 = .ok (.iconst 0, 1) := by decide +kernel
theorem dX3_mean_8 : decode cX3_mean 8 = .ok (.istore_n 2, 1) := by decide +kernel
theorem dX3_mean_9 : decode cX3_mean 9 = .ok (.iconst 0, 1) := by decide +kernel
theorem dX3_mean_10 : decode cX3_mean 10 = .ok (.istore_n 3, 1) := by decide +kernel
theorem dX3_mean_11 : decode cX3_mean 11 = .ok (.iload_n 3, 1) := by decide +kernel
theorem dX3_mean_12 : decode cX3_mean 12 = .ok (.iconst 2, 1) := by decide +kernel
theorem dX3_mean_13 : decode cX3_mean 13 = .ok (.if_icmp .ge 62, 3) := by decide +kernel
theorem dX3_mean_16 : decode cX3_mean 16 = .ok (.aload_n 0, 1) := by decide +kernel
theorem dX3_mean_17 : decode cX3_mean 17 = .ok (.iload_n 3, 1) := by decide +kernel
theorem dX3_mean_18 : decode cX3_mean 18 = .ok (.invokevirtual 117, 3) := by decide +kernel
theorem dX3_mean_21 : decode cX3_mean 21 = .ok (.iconst 1, 1) := by decide +kernel
theorem dX3_mean_22 : decode cX3_mean 22 = .ok (.istore 4, 2) := by decide +kernel
theorem dX3_mean_24 : decode cX3_mean 24 = .ok (.iload 4, 2) := by decide +kernel
theorem dX3_mean_26 : decode cX3_mean 26 = .ok (.aload_n 0, 1) := by decide +kernel
theorem dX3_mean_27 : decode cX3_mean 27 = .ok (.getfield 14, 3) := by decide +kernel
theorem dX3_mean_30 : decode cX3_mean 30 = .ok (.iload_n 3, 1) := by decide +kernel
theorem dX3_mean_31 : decode cX3_mean 31 = .ok (.iaload, 1) := by decide +kernel
theorem dX3_mean_32 : decode cX3_mean 32 = .ok (.if_icmp .ge 37, 3) := by decide +kernel
theorem dX3_mean_35 : decode cX3_mean 35 = .ok (.iload_n 1, 1) := by decide +kernel
theorem dX3_mean_36 : decode cX3_mean 36 = .ok (.aload_n 0, 1) := by decide +kernel
theorem dX3_mean_37 : decode cX3_mean 37 = .ok (.getfield 21, 3) := by decide +kernel
theorem dX3_mean_40 : decode cX3_mean 40 = .ok (.aload_n 0, 1) := by decide +kernel
theorem dX3_mean_41 : decode cX3_mean 41 = .ok (.getfield 24, 3) := by decide +kernel
theorem dX3_mean_44 : decode cX3_mean 44 = .ok (.iload 4, 2) := by decide +kernel
theorem dX3_mean_46 : decode cX3_mean 46 = .ok (.iconst 1, 1) := by decide +kernel
theorem dX3_mean_47 : decode cX3_mean 47 = .ok (.isub, 1) := by decide +kernel
theorem dX3_mean_48 : decode cX3_mean 48 = .ok (.iaload, 1) := by decide +kernel
theorem dX3_mean_49 : decode cX3_mean 49 = .ok (.aaload, 1) := by decide +kernel
theorem dX3_mean_50 : decode cX3_mean 50 = .ok (.aload_n 0, 1) := by decide +kernel
theorem dX3_mean_51 : decode cX3_mean 51 = .ok (.getfield 24, 3) := by decide +kernel
theorem dX3_mean_54 : decode cX3_mean 54 = .ok (.iload 4, 2) := by decide +kernel
theorem dX3_mean_56 : decode cX3_mean 56 = .ok (.iaload, 1) := by decide +kernel
theorem dX3_mean_57 : decode cX3_mean 57 = .ok (.iaload, 1) := by decide +kernel
theorem dX3_mean_58 : decode cX3_mean 58 = .ok (.iadd, 1) := by decide +kernel
theorem dX3_mean_59 : decode cX3_mean 59 = .ok (.istore_n 1, 1) := by decide +kernel
theorem dX3_mean_60 : decode cX3_mean 60 = .ok (.iinc 2 1, 3) := by decide +kernel
theorem dX3_mean_63 : decode cX3_mean 63 = .ok (.iinc 4 1, 3) := by decide +kernel
theorem dX3_mean_66 : decode cX3_mean 66 = .ok (.goto (-42), 3) := by decide +kernel
theorem dX3_mean_69 : decode cX3_mean 69 = .ok (.iinc 3 1, 3) := by decide +kernel
theorem dX3_mean_72 : decode cX3_mean 72 = .ok (.goto (-61), 3) := by decide +kernel
theorem dX3_mean_75 : decode cX3_mean 75 = .ok (.iload_n 2, 1) := by decide +kernel
theorem dX3_mean_76 : decode cX3_mean 76 = .ok (.ifCond .ne 7, 3) := by decide +kernel
theorem dX3_mean_79 : decode cX3_mean 79 = .ok (.dconst 0, 1) := by decide +kernel
theorem dX3_mean_80 : decode cX3_mean 80 = .ok (.goto 8, 3) := by decide +kernel
theorem dX3_mean_83 : decode cX3_mean 83 = .ok (.iload_n 1, 1) := by decide +kernel
theorem dX3_mean_84 : decode cX3_mean 84 = .ok (.i2d, 1) := by decide +kernel
theorem dX3_mean_85 : decode cX3_mean 85 = .ok (.iload_n 2, 1) := by decide +kernel
theorem dX3_mean_86 : decode cX3_mean 86 = .ok (.i2d, 1) := by decide +kernel
theorem dX3_mean_87 : decode cX3_mean 87 = .ok (.ddiv, 1) := by decide +kernel
theorem dX3_mean_88 : decode cX3_mean 88 = .ok (.dreturn, 1) := by decide +kernel
set_option maxRecDepth 20000 in
theorem ggX3_digest_X3_counted : GoodIn wsX3_digest wsX3_counted := goodIn_r _ [13, 4, 7, 14, 15, 16, 12, 17, 18, 19, 20, 21, 5, 22, 23, 24, 25, 26, 27, 28, 29, 30, 31, 32, 33, 34, 35, 36, 37, 38, 39, 40, 41, 42, 43, 44, 45, 46, 47, 48, 49, 50, 51, 52, 53, 101, 102, 103, 104, 105, 106, 107, 108] (by decide +kernel) (by decide +kernel)
set_option maxRecDepth 20000 in
theorem gX3_digest_X3_counted : GoodIn wsX3_digest (wsV RX3 114 RX3 yX3_counted wsX3_counted) := goodIn_app (goodIn_of _ (by decide +kernel)) ggX3_digest_X3_counted
set_option maxRecDepth 20000 in
theorem ggX3_digest_X3_order : GoodIn wsX3_digest wsX3_order := goodIn_r _ [57, 4, 6, 18, 19, 20, 12, 21, 5, 22, 23, 24, 25, 58, 59, 60, 61, 47, 48, 49, 50, 51, 52, 53, 101, 102, 103, 104, 105, 106, 107, 108] (by decide +kernel) (by decide +kernel)
set_option maxRecDepth 20000 in
theorem gX3_digest_X3_order : GoodIn wsX3_digest (wsV RX3 117 RX3 yX3_order wsX3_order) := goodIn_app (goodIn_of _ (by decide +kernel)) ggX3_digest_X3_order
set_option maxRecDepth 20000 in
theorem ggX3_digest_X3_repeatTold : GoodIn wsX3_digest wsX3_repeatTold := goodIn_r _ [65, 4, 22, 18, 19, 20, 12, 21, 5, 23, 24, 25, 66, 67, 68, 69, 30, 31, 32, 33, 47, 48, 49, 50, 51, 52, 53, 70, 71, 72, 73, 101, 102, 103, 104, 105, 106, 107, 108] (by decide +kernel) (by decide +kernel)
set_option maxRecDepth 20000 in
theorem gX3_digest_X3_repeatTold : GoodIn wsX3_digest (wsV RX3 120 RX3 yX3_repeatTold wsX3_repeatTold) := goodIn_app (goodIn_of _ (by decide +kernel)) ggX3_digest_X3_repeatTold
set_option maxRecDepth 20000 in
theorem ggX3_digest_X3_periodOf : GoodIn wsX3_digest wsX3_periodOf := goodIn_r _ [77, 4, 78, 79, 32, 80, 81, 82, 83, 12, 84, 5, 101, 102, 103, 104, 105, 106, 107, 108] (by decide +kernel) (by decide +kernel)
set_option maxRecDepth 20000 in
theorem gX3_digest_X3_periodOf : GoodIn wsX3_digest (wsV RX3 129 RX3 yX3_periodOf wsX3_periodOf) := goodIn_app (goodIn_of _ (by decide +kernel)) ggX3_digest_X3_periodOf
set_option maxRecDepth 20000 in
theorem ggX3_digest_X3_turnedOf : GoodIn wsX3_digest wsX3_turnedOf := goodIn_r _ [88, 4, 89, 90, 91, 12, 92, 5, 101, 102, 103, 104, 105, 106, 107, 108] (by decide +kernel) (by decide +kernel)
set_option maxRecDepth 20000 in
theorem gX3_digest_X3_turnedOf : GoodIn wsX3_digest (wsV RX3 132 RX3 yX3_turnedOf wsX3_turnedOf) := goodIn_app (goodIn_of _ (by decide +kernel)) ggX3_digest_X3_turnedOf
set_option maxRecDepth 20000 in
theorem ggX3_digest_X3_foundIn : GoodIn wsX3_digest wsX3_foundIn := goodIn_r _ [96, 4, 97, 98, 99, 12, 100, 7, 5, 8, 101, 102, 103, 104, 105, 106, 107, 108] (by decide +kernel) (by decide +kernel)
set_option maxRecDepth 20000 in
theorem gX3_digest_X3_foundIn : GoodIn wsX3_digest (wsV RX3 126 RX3 yX3_foundIn wsX3_foundIn) := goodIn_app (goodIn_of _ (by decide +kernel)) ggX3_digest_X3_foundIn
set_option maxRecDepth 20000 in
theorem ggX3_digest_X3_seamTold : GoodIn wsX3_digest wsX3_seamTold := goodIn_r _ [37, 4, 22, 38, 18, 19, 20, 12, 21, 5, 23, 24, 25, 39, 40, 41, 42, 43, 44, 45, 46, 30, 31, 32, 33, 47, 48, 49, 50, 51, 52, 53, 101, 102, 103, 104, 105, 106, 107, 108] (by decide +kernel) (by decide +kernel)
set_option maxRecDepth 20000 in
theorem gX3_digest_X3_seamTold : GoodIn wsX3_digest (wsV RX3 111 RX3 yX3_seamTold wsX3_seamTold) := goodIn_app (goodIn_of _ (by decide +kernel)) ggX3_digest_X3_seamTold
theorem dX3_digest_0 : decode cX3_digest 0 = .ok (.aload_n 0, 1) := by decide +kernel
theorem dX3_digest_1 : decode cX3_digest 1 = .ok (.iconst 0, 1) := by decide +kernel
theorem dX3_digest_2 : decode cX3_digest 2 = .ok (.putfield 30, 3) := by decide +kernel
theorem dX3_digest_5 : decode cX3_digest 5 = .ok (.ldc2_w 138, 3) := by decide +kernel
theorem dX3_digest_8 : decode cX3_digest 8 = .ok (.lstore_n 1, 1) := by decide +kernel
theorem dX3_digest_9 : decode cX3_digest 9 = .ok (.iconst 0, 1) := by decide +kernel
theorem dX3_digest_10 : decode cX3_digest 10 = .ok (.istore_n 3, 1) := by decide +kernel
theorem dX3_digest_11 : decode cX3_digest 11 = .ok (.iload_n 3, 1) := by decide +kernel
theorem dX3_digest_12 : decode cX3_digest 12 = .ok (.iconst 5, 1) := by decide +kernel
theorem dX3_digest_13 : decode cX3_digest 13 = .ok (.if_icmp .gt 22, 3) := by decide +kernel
theorem dX3_digest_16 : decode cX3_digest 16 = .ok (.lload_n 1, 1) := by decide +kernel
theorem dX3_digest_17 : decode cX3_digest 17 = .ok (.ldc2_w 140, 3) := by decide +kernel
theorem dX3_digest_20 : decode cX3_digest 20 = .ok (.lmul, 1) := by decide +kernel
theorem dX3_digest_21 : decode cX3_digest 21 = .ok (.aload_n 0, 1) := by decide +kernel
theorem dX3_digest_22 : decode cX3_digest 22 = .ok (.iload_n 3, 1) := by decide +kernel
theorem dX3_digest_23 : decode cX3_digest 23 = .ok (.invokevirtual 114, 3) := by decide +kernel
theorem dX3_digest_26 : decode cX3_digest 26 = .ok (.i2l, 1) := by decide +kernel
theorem dX3_digest_27 : decode cX3_digest 27 = .ok (.ladd, 1) := by decide +kernel
theorem dX3_digest_28 : decode cX3_digest 28 = .ok (.lstore_n 1, 1) := by decide +kernel
theorem dX3_digest_29 : decode cX3_digest 29 = .ok (.iinc 3 1, 3) := by decide +kernel
theorem dX3_digest_32 : decode cX3_digest 32 = .ok (.goto (-21), 3) := by decide +kernel
theorem dX3_digest_35 : decode cX3_digest 35 = .ok (.iconst 0, 1) := by decide +kernel
theorem dX3_digest_36 : decode cX3_digest 36 = .ok (.istore_n 3, 1) := by decide +kernel
theorem dX3_digest_37 : decode cX3_digest 37 = .ok (.iload_n 3, 1) := by decide +kernel
theorem dX3_digest_38 : decode cX3_digest 38 = .ok (.iconst 2, 1) := by decide +kernel
theorem dX3_digest_39 : decode cX3_digest 39 = .ok (.if_icmp .ge 151, 3) := by decide +kernel
theorem dX3_digest_42 : decode cX3_digest 42 = .ok (.iconst 0, 1) := by decide +kernel
theorem dX3_digest_43 : decode cX3_digest 43 = .ok (.istore 4, 2) := by decide +kernel
theorem dX3_digest_45 : decode cX3_digest 45 = .ok (.iload 4, 2) := by decide +kernel
theorem dX3_digest_47 : decode cX3_digest 47 = .ok (.aload_n 0, 1) := by decide +kernel
theorem dX3_digest_48 : decode cX3_digest 48 = .ok (.getfield 14, 3) := by decide +kernel
theorem dX3_digest_51 : decode cX3_digest 51 = .ok (.iload_n 3, 1) := by decide +kernel
theorem dX3_digest_52 : decode cX3_digest 52 = .ok (.iaload, 1) := by decide +kernel
theorem dX3_digest_53 : decode cX3_digest 53 = .ok (.if_icmp .ge 26, 3) := by decide +kernel
theorem dX3_digest_56 : decode cX3_digest 56 = .ok (.lload_n 1, 1) := by decide +kernel
theorem dX3_digest_57 : decode cX3_digest 57 = .ok (.ldc2_w 140, 3) := by decide +kernel
theorem dX3_digest_60 : decode cX3_digest 60 = .ok (.lmul, 1) := by decide +kernel
theorem dX3_digest_61 : decode cX3_digest 61 = .ok (.aload_n 0, 1) := by decide +kernel
theorem dX3_digest_62 : decode cX3_digest 62 = .ok (.getfield 11, 3) := by decide +kernel
theorem dX3_digest_65 : decode cX3_digest 65 = .ok (.iload_n 3, 1) := by decide +kernel
theorem dX3_digest_66 : decode cX3_digest 66 = .ok (.aaload, 1) := by decide +kernel
theorem dX3_digest_67 : decode cX3_digest 67 = .ok (.iload 4, 2) := by decide +kernel
theorem dX3_digest_69 : decode cX3_digest 69 = .ok (.iaload, 1) := by decide +kernel
theorem dX3_digest_70 : decode cX3_digest 70 = .ok (.i2l, 1) := by decide +kernel
theorem dX3_digest_71 : decode cX3_digest 71 = .ok (.ladd, 1) := by decide +kernel
theorem dX3_digest_72 : decode cX3_digest 72 = .ok (.lstore_n 1, 1) := by decide +kernel
theorem dX3_digest_73 : decode cX3_digest 73 = .ok (.iinc 4 1, 3) := by decide +kernel
theorem dX3_digest_76 : decode cX3_digest 76 = .ok (.goto (-31), 3) := by decide +kernel
theorem dX3_digest_79 : decode cX3_digest 79 = .ok (.aload_n 0, 1) := by decide +kernel
theorem dX3_digest_80 : decode cX3_digest 80 = .ok (.iload_n 3, 1) := by decide +kernel
theorem dX3_digest_81 : decode cX3_digest 81 = .ok (.invokevirtual 117, 3) := by decide +kernel
theorem dX3_digest_84 : decode cX3_digest 84 = .ok (.iconst 0, 1) := by decide +kernel
theorem dX3_digest_85 : decode cX3_digest 85 = .ok (.istore 4, 2) := by decide +kernel
theorem dX3_digest_87 : decode cX3_digest 87 = .ok (.iload 4, 2) := by decide +kernel
theorem dX3_digest_89 : decode cX3_digest 89 = .ok (.aload_n 0, 1) := by decide +kernel
theorem dX3_digest_90 : decode cX3_digest 90 = .ok (.getfield 14, 3) := by decide +kernel
theorem dX3_digest_93 : decode cX3_digest 93 = .ok (.iload_n 3, 1) := by decide +kernel
theorem dX3_digest_94 : decode cX3_digest 94 = .ok (.iaload, 1) := by decide +kernel
theorem dX3_digest_95 : decode cX3_digest 95 = .ok (.if_icmp .ge 24, 3) := by decide +kernel
theorem dX3_digest_98 : decode cX3_digest 98 = .ok (.lload_n 1, 1) := by decide +kernel
theorem dX3_digest_99 : decode cX3_digest 99 = .ok (.ldc2_w 140, 3) := by decide +kernel
theorem dX3_digest_102 : decode cX3_digest 102 = .ok (.lmul, 1) := by decide +kernel
theorem dX3_digest_103 : decode cX3_digest 103 = .ok (.aload_n 0, 1) := by decide +kernel
theorem dX3_digest_104 : decode cX3_digest 104 = .ok (.getfield 24, 3) := by decide +kernel
theorem dX3_digest_107 : decode cX3_digest 107 = .ok (.iload 4, 2) := by decide +kernel
theorem dX3_digest_109 : decode cX3_digest 109 = .ok (.iaload, 1) := by decide +kernel
theorem dX3_digest_110 : decode cX3_digest 110 = .ok (.i2l, 1) := by decide +kernel
theorem dX3_digest_111 : decode cX3_digest 111 = .ok (.ladd, 1) := by decide +kernel
theorem dX3_digest_112 : decode cX3_digest 112 = .ok (.lstore_n 1, 1) := by decide +kernel
theorem dX3_digest_113 : decode cX3_digest 113 = .ok (.iinc 4 1, 3) := by decide +kernel
theorem dX3_digest_116 : decode cX3_digest 116 = .ok (.goto (-29), 3) := by decide +kernel
theorem dX3_digest_119 : decode cX3_digest 119 = .ok (.iconst 0, 1) := by decide +kernel
theorem dX3_digest_120 : decode cX3_digest 120 = .ok (.istore 4, 2) := by decide +kernel
theorem dX3_digest_122 : decode cX3_digest 122 = .ok (.iload 4, 2) := by decide +kernel
theorem dX3_digest_124 : decode cX3_digest 124 = .ok (.iconst 2, 1) := by decide +kernel
theorem dX3_digest_125 : decode cX3_digest 125 = .ok (.if_icmp .gt 24, 3) := by decide +kernel
theorem dX3_digest_128 : decode cX3_digest 128 = .ok (.lload_n 1, 1) := by decide +kernel
theorem dX3_digest_129 : decode cX3_digest 129 = .ok (.ldc2_w 140, 3) := by decide +kernel
theorem dX3_digest_132 : decode cX3_digest 132 = .ok (.lmul, 1) := by decide +kernel
theorem dX3_digest_133 : decode cX3_digest 133 = .ok (.aload_n 0, 1) := by decide +kernel
theorem dX3_digest_134 : decode cX3_digest 134 = .ok (.iload_n 3, 1) := by decide +kernel
theorem dX3_digest_135 : decode cX3_digest 135 = .ok (.iload 4, 2) := by decide +kernel
theorem dX3_digest_137 : decode cX3_digest 137 = .ok (.invokevirtual 120, 3) := by decide +kernel
theorem dX3_digest_140 : decode cX3_digest 140 = .ok (.i2l, 1) := by decide +kernel
theorem dX3_digest_141 : decode cX3_digest 141 = .ok (.ladd, 1) := by decide +kernel
theorem dX3_digest_142 : decode cX3_digest 142 = .ok (.lstore_n 1, 1) := by decide +kernel
theorem dX3_digest_143 : decode cX3_digest 143 = .ok (.iinc 4 1, 3) := by decide +kernel
theorem dX3_digest_146 : decode cX3_digest 146 = .ok (.goto (-24), 3) := by decide +kernel
theorem dX3_digest_149 : decode cX3_digest 149 = .ok (.lload_n 1, 1) := by decide +kernel
theorem dX3_digest_150 : decode cX3_digest 150 = .ok (.ldc2_w 140, 3) := by decide +kernel
theorem dX3_digest_153 : decode cX3_digest 153 = .ok (.lmul, 1) := by decide +kernel
theorem dX3_digest_154 : decode cX3_digest 154 = .ok (.aload_n 0, 1) := by decide +kernel
theorem dX3_digest_155 : decode cX3_digest 155 = .ok (.iload_n 3, 1) := by decide +kernel
theorem dX3_digest_156 : decode cX3_digest 156 = .ok (.invokevirtual 129, 3) := by decide +kernel
theorem dX3_digest_159 : decode cX3_digest 159 = .ok (.i2l, 1) := by decide +kernel
theorem dX3_digest_160 : decode cX3_digest 160 = .ok (.ladd, 1) := by decide +kernel
theorem dX3_digest_161 : decode cX3_digest 161 = .ok (.ldc2_w 140, 3) := by decide +kernel
theorem dX3_digest_164 : decode cX3_digest 164 = .ok (.lmul, 1) := by decide +kernel
theorem dX3_digest_165 : decode cX3_digest 165 = .ok (.aload_n 0, 1) := by decide +kernel
theorem dX3_digest_166 : decode cX3_digest 166 = .ok (.iload_n 3, 1) := by decide +kernel
theorem dX3_digest_167 : decode cX3_digest 167 = .ok (.invokevirtual 132, 3) := by decide +kernel
theorem dX3_digest_170 : decode cX3_digest 170 = .ok (.i2l, 1) := by decide +kernel
theorem dX3_digest_171 : decode cX3_digest 171 = .ok (.ladd, 1) := by decide +kernel
theorem dX3_digest_172 : decode cX3_digest 172 = .ok (.ldc2_w 140, 3) := by decide +kernel
theorem dX3_digest_175 : decode cX3_digest 175 = .ok (.lmul, 1) := by decide +kernel
theorem dX3_digest_176 : decode cX3_digest 176 = .ok (.aload_n 0, 1) := by decide +kernel
theorem dX3_digest_177 : decode cX3_digest 177 = .ok (.iload_n 3, 1) := by decide +kernel
theorem dX3_digest_178 : decode cX3_digest 178 = .ok (.invokevirtual 126, 3) := by decide +kernel
theorem dX3_digest_181 : decode cX3_digest 181 = .ok (.i2l, 1) := by decide +kernel
theorem dX3_digest_182 : decode cX3_digest 182 = .ok (.ladd, 1) := by decide +kernel
theorem dX3_digest_183 : decode cX3_digest 183 = .ok (.lstore_n 1, 1) := by decide +kernel
theorem dX3_digest_184 : decode cX3_digest 184 = .ok (.iinc 3 1, 3) := by decide +kernel
theorem dX3_digest_187 : decode cX3_digest 187 = .ok (.goto (-150), 3) := by decide +kernel
theorem dX3_digest_190 : decode cX3_digest 190 = .ok (.iconst 0, 1) := by decide +kernel
theorem dX3_digest_191 : decode cX3_digest 191 = .ok (.istore_n 3, 1) := by decide +kernel
theorem dX3_digest_192 : decode cX3_digest 192 = .ok (.iload_n 3, 1) := by decide +kernel
theorem dX3_digest_193 : decode cX3_digest 193 = .ok (.aload_n 0, 1) := by decide +kernel
theorem dX3_digest_194 : decode cX3_digest 194 = .ok (.getfield 83, 3) := by decide +kernel
theorem dX3_digest_197 : decode cX3_digest 197 = .ok (.if_icmp .ge 23, 3) := by decide +kernel
theorem dX3_digest_200 : decode cX3_digest 200 = .ok (.lload_n 1, 1) := by decide +kernel
theorem dX3_digest_201 : decode cX3_digest 201 = .ok (.ldc2_w 140, 3) := by decide +kernel
theorem dX3_digest_204 : decode cX3_digest 204 = .ok (.lmul, 1) := by decide +kernel
theorem dX3_digest_205 : decode cX3_digest 205 = .ok (.aload_n 0, 1) := by decide +kernel
theorem dX3_digest_206 : decode cX3_digest 206 = .ok (.getfield 18, 3) := by decide +kernel
theorem dX3_digest_209 : decode cX3_digest 209 = .ok (.iload_n 3, 1) := by decide +kernel
theorem dX3_digest_210 : decode cX3_digest 210 = .ok (.iaload, 1) := by decide +kernel
theorem dX3_digest_211 : decode cX3_digest 211 = .ok (.i2l, 1) := by decide +kernel
theorem dX3_digest_212 : decode cX3_digest 212 = .ok (.ladd, 1) := by decide +kernel
theorem dX3_digest_213 : decode cX3_digest 213 = .ok (.lstore_n 1, 1) := by decide +kernel
theorem dX3_digest_214 : decode cX3_digest 214 = .ok (.iinc 3 1, 3) := by decide +kernel
theorem dX3_digest_217 : decode cX3_digest 217 = .ok (.goto (-25), 3) := by decide +kernel
theorem dX3_digest_220 : decode cX3_digest 220 = .ok (.iconst 0, 1) := by decide +kernel
theorem dX3_digest_221 : decode cX3_digest 221 = .ok (.istore_n 3, 1) := by decide +kernel
theorem dX3_digest_222 : decode cX3_digest 222 = .ok (.iload_n 3, 1) := by decide +kernel
theorem dX3_digest_223 : decode cX3_digest 223 = .ok (.iconst 2, 1) := by decide +kernel
theorem dX3_digest_224 : decode cX3_digest 224 = .ok (.if_icmp .gt 22, 3) := by decide +kernel
theorem dX3_digest_227 : decode cX3_digest 227 = .ok (.lload_n 1, 1) := by decide +kernel
theorem dX3_digest_228 : decode cX3_digest 228 = .ok (.ldc2_w 140, 3) := by decide +kernel
theorem dX3_digest_231 : decode cX3_digest 231 = .ok (.lmul, 1) := by decide +kernel
theorem dX3_digest_232 : decode cX3_digest 232 = .ok (.aload_n 0, 1) := by decide +kernel
theorem dX3_digest_233 : decode cX3_digest 233 = .ok (.iload_n 3, 1) := by decide +kernel
theorem dX3_digest_234 : decode cX3_digest 234 = .ok (.invokevirtual 111, 3) := by decide +kernel
theorem dX3_digest_237 : decode cX3_digest 237 = .ok (.i2l, 1) := by decide +kernel
theorem dX3_digest_238 : decode cX3_digest 238 = .ok (.ladd, 1) := by decide +kernel
theorem dX3_digest_239 : decode cX3_digest 239 = .ok (.lstore_n 1, 1) := by decide +kernel
theorem dX3_digest_240 : decode cX3_digest 240 = .ok (.iinc 3 1, 3) := by decide +kernel
theorem dX3_digest_243 : decode cX3_digest 243 = .ok (.goto (-21), 3) := by decide +kernel
theorem dX3_digest_246 : decode cX3_digest 246 = .ok (.lload_n 1, 1) := by decide +kernel
theorem dX3_digest_247 : decode cX3_digest 247 = .ok (.lreturn, 1) := by decide +kernel
