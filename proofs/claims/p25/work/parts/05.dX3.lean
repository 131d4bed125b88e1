set_option maxRecDepth 20000 in
theorem ggX3_init_X3_grow : GoodIn wsX3_init wsX3_grow := goodIn_r _ [20, 5, 6, 11, 8, 9, 10, 25, 26, 27, 28, 29, 30, 31, 32, 33, 34] (by decide +kernel) (by decide +kernel)
set_option maxRecDepth 20000 in
theorem gX3_init_X3_grow : GoodIn wsX3_init (wsV RX3 43 RX3 yX3_grow wsX3_grow) := goodIn_app (goodIn_of _ (by decide +kernel)) ggX3_init_X3_grow
set_option maxRecDepth 20000 in
theorem ggX3_init_X3_walk : GoodIn wsX3_init wsX3_walk := goodIn_r _ [24, 12, 13, 10, 14, 15, 5, 8, 21, 22, 23, 19, 25, 26, 27, 28, 29, 30, 31, 32, 33, 34] (by decide +kernel) (by decide +kernel)
set_option maxRecDepth 20000 in
theorem gX3_init_X3_walk : GoodIn wsX3_init (wsV RX3 47 RX3 yX3_walk wsX3_walk) := goodIn_app (goodIn_of _ (by decide +kernel)) ggX3_init_X3_walk
theorem dX3_init_0 : decode cX3_init 0 = .ok (.aload_n 0, 1) := by decide +kernel
theorem dX3_init_1 : decode cX3_init 1 = .ok (.invokespecial 1, 3) := by decide +kernel
theorem dX3_init_4 : decode cX3_init 4 = .ok (.aload_n 0, 1) := by decide +kernel
theorem dX3_init_5 : decode cX3_init 5 = .ok (.sipush 15300, 3) := by decide +kernel
theorem dX3_init_8 : decode cX3_init 8 = .ok (.newarray .int, 2) := by decide +kernel
theorem dX3_init_10 : decode cX3_init 10 = .ok (.putfield 7, 3) := by decide +kernel
theorem dX3_init_13 : decode cX3_init 13 = .ok (.aload_n 0, 1) := by decide +kernel
theorem dX3_init_14 : decode cX3_init 14 = .ok (.sipush 1700, 3) := by decide +kernel
theorem dX3_init_17 : decode cX3_init 17 = .ok (.newarray .int, 2) := by decide +kernel
theorem dX3_init_19 : decode cX3_init 19 = .ok (.putfield 13, 3) := by decide +kernel
theorem dX3_init_22 : decode cX3_init 22 = .ok (.aload_n 0, 1) := by decide +kernel
theorem dX3_init_23 : decode cX3_init 23 = .ok (.iconst 2, 1) := by decide +kernel
theorem dX3_init_24 : decode cX3_init 24 = .ok (.sipush 1700, 3) := by decide +kernel
theorem dX3_init_27 : decode cX3_init 27 = .ok (.multianewarray 16 2, 4) := by decide +kernel
theorem dX3_init_31 : decode cX3_init 31 = .ok (.putfield 18, 3) := by decide +kernel
theorem dX3_init_34 : decode cX3_init 34 = .ok (.aload_n 0, 1) := by decide +kernel
theorem dX3_init_35 : decode cX3_init 35 = .ok (.iconst 2, 1) := by decide +kernel
theorem dX3_init_36 : decode cX3_init 36 = .ok (.sipush 1700, 3) := by decide +kernel
theorem dX3_init_39 : decode cX3_init 39 = .ok (.multianewarray 16 2, 4) := by decide +kernel
theorem dX3_init_43 : decode cX3_init 43 = .ok (.putfield 21, 3) := by decide +kernel
theorem dX3_init_46 : decode cX3_init 46 = .ok (.aload_n 0, 1) := by decide +kernel
theorem dX3_init_47 : decode cX3_init 47 = .ok (.iconst 2, 1) := by decide +kernel
theorem dX3_init_48 : decode cX3_init 48 = .ok (.sipush 1700, 3) := by decide +kernel
theorem dX3_init_51 : decode cX3_init 51 = .ok (.multianewarray 16 2, 4) := by decide +kernel
theorem dX3_init_55 : decode cX3_init 55 = .ok (.putfield 24, 3) := by decide +kernel
theorem dX3_init_58 : decode cX3_init 58 = .ok (.aload_n 0, 1) := by decide +kernel
theorem dX3_init_59 : decode cX3_init 59 = .ok (.iconst 1, 1) := by decide +kernel
theorem dX3_init_60 : decode cX3_init 60 = .ok (.putfield 27, 3) := by decide +kernel
theorem dX3_init_63 : decode cX3_init 63 = .ok (.aload_n 0, 1) := by decide +kernel
theorem dX3_init_64 : decode cX3_init 64 = .ok (.iconst 2, 1) := by decide +kernel
theorem dX3_init_65 : decode cX3_init 65 = .ok (.sipush 900, 3) := by decide +kernel
theorem dX3_init_68 : decode cX3_init 68 = .ok (.multianewarray 16 2, 4) := by decide +kernel
theorem dX3_init_72 : decode cX3_init 72 = .ok (.putfield 31, 3) := by decide +kernel
theorem dX3_init_75 : decode cX3_init 75 = .ok (.aload_n 0, 1) := by decide +kernel
theorem dX3_init_76 : decode cX3_init 76 = .ok (.iconst 2, 1) := by decide +kernel
theorem dX3_init_77 : decode cX3_init 77 = .ok (.newarray .int, 2) := by decide +kernel
theorem dX3_init_79 : decode cX3_init 79 = .ok (.putfield 34, 3) := by decide +kernel
theorem dX3_init_82 : decode cX3_init 82 = .ok (.aload_n 0, 1) := by decide +kernel
theorem dX3_init_83 : decode cX3_init 83 = .ok (.iconst 2, 1) := by decide +kernel
theorem dX3_init_84 : decode cX3_init 84 = .ok (.bipush 42, 2) := by decide +kernel
theorem dX3_init_86 : decode cX3_init 86 = .ok (.multianewarray 16 2, 4) := by decide +kernel
theorem dX3_init_90 : decode cX3_init 90 = .ok (.putfield 37, 3) := by decide +kernel
theorem dX3_init_93 : decode cX3_init 93 = .ok (.aload_n 0, 1) := by decide +kernel
theorem dX3_init_94 : decode cX3_init 94 = .ok (.iconst 2, 1) := by decide +kernel
theorem dX3_init_95 : decode cX3_init 95 = .ok (.newarray .int, 2) := by decide +kernel
theorem dX3_init_97 : decode cX3_init 97 = .ok (.putfield 40, 3) := by decide +kernel
theorem dX3_init_100 : decode cX3_init 100 = .ok (.aload_n 0, 1) := by decide +kernel
theorem dX3_init_101 : decode cX3_init 101 = .ok (.iconst 0, 1) := by decide +kernel
theorem dX3_init_102 : decode cX3_init 102 = .ok (.aload_n 1, 1) := by decide +kernel
theorem dX3_init_103 : decode cX3_init 103 = .ok (.invokevirtual 43, 3) := by decide +kernel
theorem dX3_init_106 : decode cX3_init 106 = .ok (.aload_n 0, 1) := by decide +kernel
theorem dX3_init_107 : decode cX3_init 107 = .ok (.iconst 1, 1) := by decide +kernel
theorem dX3_init_108 : decode cX3_init 108 = .ok (.aload_n 2, 1) := by decide +kernel
theorem dX3_init_109 : decode cX3_init 109 = .ok (.invokevirtual 43, 3) := by decide +kernel
theorem dX3_init_112 : decode cX3_init 112 = .ok (.aload_n 0, 1) := by decide +kernel
theorem dX3_init_113 : decode cX3_init 113 = .ok (.iconst 0, 1) := by decide +kernel
theorem dX3_init_114 : decode cX3_init 114 = .ok (.iconst 0, 1) := by decide +kernel
theorem dX3_init_115 : decode cX3_init 115 = .ok (.invokevirtual 47, 3) := by decide +kernel
theorem dX3_init_118 : decode cX3_init 118 = .ok (.aload_n 0, 1) := by decide +kernel
theorem dX3_init_119 : decode cX3_init 119 = .ok (.iconst 1, 1) := by decide +kernel
theorem dX3_init_120 : decode cX3_init 120 = .ok (.iconst 0, 1) := by decide +kernel
theorem dX3_init_121 : decode cX3_init 121 = .ok (.invokevirtual 47, 3) := by decide +kernel
theorem dX3_init_124 : decode cX3_init 124 = .ok (.return_, 1) := by decide +kernel
theorem dX3_grow_0 : decode cX3_grow 0 = .ok (.iconst 0, 1) := by decide +kernel
theorem dX3_grow_1 : decode cX3_grow 1 = .ok (.istore_n 3, 1) := by decide +kernel
theorem dX3_grow_2 : decode cX3_grow 2 = .ok (.iload_n 3, 1) := by decide +kernel
theorem dX3_grow_3 : decode cX3_grow 3 = .ok (.aload_n 2, 1) := by decide +kernel
theorem dX3_grow_4 : decode cX3_grow 4 = .ok (.arraylength, 1) := by decide +kernel
theorem dX3_grow_5 : decode cX3_grow 5 = .ok (.if_icmp .ge 145, 3) := by decide +kernel
theorem dX3_grow_8 : decode cX3_grow 8 = .ok (.iconst 0, 1) := by decide +kernel
theorem dX3_grow_9 : decode cX3_grow 9 = .ok (.istore 4, 2) := by decide +kernel
theorem dX3_grow_11 : decode cX3_grow 11 = .ok (.iload_n 3, 1) := by decide +kernel
theorem dX3_grow_12 : decode cX3_grow 12 = .ok (.istore 5, 2) := by decide +kernel
theorem dX3_grow_14 : decode cX3_grow 14 = .ok (.iload 5, 2) := by decide +kernel
theorem dX3_grow_16 : decode cX3_grow 16 = .ok (.aload_n 2, 1) := by decide +kernel
theorem dX3_grow_17 : decode cX3_grow 17 = .ok (.arraylength, 1) := by decide +kernel
theorem dX3_grow_18 : decode cX3_grow 18 = .ok (.if_icmp .ge 114, 3) := by decide +kernel
theorem dX3_grow_21 : decode cX3_grow 21 = .ok (.bipush 9, 2) := by decide +kernel
theorem dX3_grow_23 : decode cX3_grow 23 = .ok (.iload 4, 2) := by decide +kernel
theorem dX3_grow_25 : decode cX3_grow 25 = .ok (.imul, 1) := by decide +kernel
theorem dX3_grow_26 : decode cX3_grow 26 = .ok (.aload_n 2, 1) := by decide +kernel
theorem dX3_grow_27 : decode cX3_grow 27 = .ok (.iload 5, 2) := by decide +kernel
theorem dX3_grow_29 : decode cX3_grow 29 = .ok (.iaload, 1) := by decide +kernel
theorem dX3_grow_30 : decode cX3_grow 30 = .ok (.iadd, 1) := by decide +kernel
theorem dX3_grow_31 : decode cX3_grow 31 = .ok (.istore 6, 2) := by decide +kernel
theorem dX3_grow_33 : decode cX3_grow 33 = .ok (.aload_n 0, 1) := by decide +kernel
theorem dX3_grow_34 : decode cX3_grow 34 = .ok (.getfield 7, 3) := by decide +kernel
theorem dX3_grow_37 : decode cX3_grow 37 = .ok (.iload 6, 2) := by decide +kernel
theorem dX3_grow_39 : decode cX3_grow 39 = .ok (.iaload, 1) := by decide +kernel
theorem dX3_grow_40 : decode cX3_grow 40 = .ok (.ifCond .ne 42, 3) := by decide +kernel
theorem dX3_grow_43 : decode cX3_grow 43 = .ok (.aload_n 0, 1) := by decide +kernel
theorem dX3_grow_44 : decode cX3_grow 44 = .ok (.getfield 13, 3) := by decide +kernel
theorem dX3_grow_47 : decode cX3_grow 47 = .ok (.aload_n 0, 1) := by decide +kernel
theorem dX3_grow_48 : decode cX3_grow 48 = .ok (.getfield 27, 3) := by decide +kernel
theorem dX3_grow_51 : decode cX3_grow 51 = .ok (.aload_n 0, 1) := by decide +kernel
theorem dX3_grow_52 : decode cX3_grow 52 = .ok (.getfield 13, 3) := by decide +kernel
theorem dX3_grow_55 : decode cX3_grow 55 = .ok (.iload 4, 2) := by decide +kernel
theorem dX3_grow_57 : decode cX3_grow 57 = .ok (.iaload, 1) := by decide +kernel
theorem dX3_grow_58 : decode cX3_grow 58 = .ok (.iconst 1, 1) := by decide +kernel
theorem dX3_grow_59 : decode cX3_grow 59 = .ok (.iadd, 1) := by decide +kernel
theorem dX3_grow_60 : decode cX3_grow 60 = .ok (.iastore, 1) := by decide +kernel
theorem dX3_grow_61 : decode cX3_grow 61 = .ok (.aload_n 0, 1) := by decide +kernel
theorem dX3_grow_62 : decode cX3_grow 62 = .ok (.getfield 7, 3) := by decide +kernel
theorem dX3_grow_65 : decode cX3_grow 65 = .ok (.iload 6, 2) := by decide +kernel
theorem dX3_grow_67 : decode cX3_grow 67 = .ok (.aload_n 0, 1) := by decide +kernel
theorem dX3_grow_68 : decode cX3_grow 68 = .ok (.getfield 27, 3) := by decide +kernel
theorem dX3_grow_71 : decode cX3_grow 71 = .ok (.iastore, 1) := by decide +kernel
theorem dX3_grow_72 : decode cX3_grow 72 = .ok (.aload_n 0, 1) := by decide +kernel
theorem dX3_grow_73 : decode cX3_grow 73 = .ok (.dup, 1) := by decide +kernel
theorem dX3_grow_74 : decode cX3_grow 74 = .ok (.getfield 27, 3) := by decide +kernel
theorem dX3_grow_77 : decode cX3_grow 77 = .ok (.iconst 1, 1) := by decide +kernel
theorem dX3_grow_78 : decode cX3_grow 78 = .ok (.iadd, 1) := by decide +kernel
theorem dX3_grow_79 : decode cX3_grow 79 = .ok (.putfield 27, 3) := by decide +kernel
theorem dX3_grow_82 : decode cX3_grow 82 = .ok (.aload_n 0, 1) := by decide +kernel
theorem dX3_grow_83 : decode cX3_grow 83 = .ok (.getfield 7, 3) := by decide +kernel
theorem dX3_grow_86 : decode cX3_grow 86 = .ok (.iload 6, 2) := by decide +kernel
theorem dX3_grow_88 : decode cX3_grow 88 = .ok (.iaload, 1) := by decide +kernel
theorem dX3_grow_89 : decode cX3_grow 89 = .ok (.istore 4, 2) := by decide +kernel
theorem dX3_grow_91 : decode cX3_grow 91 = .ok (.aload_n 0, 1) := by decide +kernel
theorem dX3_grow_92 : decode cX3_grow 92 = .ok (.getfield 18, 3) := by decide +kernel
theorem dX3_grow_95 : decode cX3_grow 95 = .ok (.iload_n 1, 1) := by decide +kernel
theorem dX3_grow_96 : decode cX3_grow 96 = .ok (.aaload, 1) := by decide +kernel
theorem dX3_grow_97 : decode cX3_grow 97 = .ok (.iload 4, 2) := by decide +kernel
theorem dX3_grow_99 : decode cX3_grow 99 = .ok (.iaload, 1) := by decide +kernel
theorem dX3_grow_100 : decode cX3_grow 100 = .ok (.ifCond .ne 13, 3) := by decide +kernel
theorem dX3_grow_103 : decode cX3_grow 103 = .ok (.aload_n 0, 1) := by decide +kernel
theorem dX3_grow_104 : decode cX3_grow 104 = .ok (.getfield 21, 3) := by decide +kernel
theorem dX3_grow_107 : decode cX3_grow 107 = .ok (.iload_n 1, 1) := by decide +kernel
theorem dX3_grow_108 : decode cX3_grow 108 = .ok (.aaload, 1) := by decide +kernel
theorem dX3_grow_109 : decode cX3_grow 109 = .ok (.iload 4, 2) := by decide +kernel
theorem dX3_grow_111 : decode cX3_grow 111 = .ok (.iload_n 3, 1) := by decide +kernel
theorem dX3_grow_112 : decode cX3_grow 112 = .ok (.iastore, 1) := by decide +kernel
theorem dX3_grow_113 : decode cX3_grow 113 = .ok (.aload_n 0, 1) := by decide +kernel
theorem dX3_grow_114 : decode cX3_grow 114 = .ok (.getfield 18, 3) := by decide +kernel
theorem dX3_grow_117 : decode cX3_grow 117 = .ok (.iload_n 1, 1) := by decide +kernel
theorem dX3_grow_118 : decode cX3_grow 118 = .ok (.aaload, 1) := by decide +kernel
theorem dX3_grow_119 : decode cX3_grow 119 = .ok (.iload 4, 2) := by decide +kernel
theorem dX3_grow_121 : decode cX3_grow 121 = .ok (.dup2, 1) := by decide +kernel
theorem dX3_grow_122 : decode cX3_grow 122 = .ok (.iaload, 1) := by decide +kernel
theorem dX3_grow_123 : decode cX3_grow 123 = .ok (.iconst 1, 1) := by decide +kernel
theorem dX3_grow_124 : decode cX3_grow 124 = .ok (.iadd, 1) := by decide +kernel
theorem dX3_grow_125 : decode cX3_grow 125 = .ok (.iastore, 1) := by decide +kernel
theorem dX3_grow_126 : decode cX3_grow 126 = .ok (.iinc 5 1, 3) := by decide +kernel
theorem dX3_grow_129 : decode cX3_grow 129 = .ok (.goto (-115), 3) := by decide +kernel
theorem dX3_grow_132 : decode cX3_grow 132 = .ok (.aload_n 0, 1) := by decide +kernel
theorem dX3_grow_133 : decode cX3_grow 133 = .ok (.getfield 24, 3) := by decide +kernel
theorem dX3_grow_136 : decode cX3_grow 136 = .ok (.iload_n 1, 1) := by decide +kernel
theorem dX3_grow_137 : decode cX3_grow 137 = .ok (.aaload, 1) := by decide +kernel
theorem dX3_grow_138 : decode cX3_grow 138 = .ok (.iload 4, 2) := by decide +kernel
theorem dX3_grow_140 : decode cX3_grow 140 = .ok (.iload_n 3, 1) := by decide +kernel
theorem dX3_grow_141 : decode cX3_grow 141 = .ok (.iconst 1, 1) := by decide +kernel
theorem dX3_grow_142 : decode cX3_grow 142 = .ok (.iadd, 1) := by decide +kernel
theorem dX3_grow_143 : decode cX3_grow 143 = .ok (.iastore, 1) := by decide +kernel
theorem dX3_grow_144 : decode cX3_grow 144 = .ok (.iinc 3 1, 3) := by decide +kernel
theorem dX3_grow_147 : decode cX3_grow 147 = .ok (.goto (-145), 3) := by decide +kernel
theorem dX3_grow_150 : decode cX3_grow 150 = .ok (.return_, 1) := by decide +kernel
set_option maxRecDepth 20000 in
theorem ggX3_walk_X3_walk : GoodIn wsX3_walk wsX3_walk := goodIn_r _ [0, 1, 2, 3, 4, 5, 6, 7, 8, 9, 10, 11, 12, 13, 14, 15, 16, 17, 18, 19, 20, 21] (by decide +kernel) (by decide +kernel)
set_option maxRecDepth 20000 in
theorem gX3_walk_X3_walk : GoodIn wsX3_walk (wsV RX3 47 RX3 yX3_walk wsX3_walk) := goodIn_app (goodIn_of _ (by decide +kernel)) ggX3_walk_X3_walk
theorem dX3_walk_0 : decode cX3_walk 0 = .ok (.iload_n 2, 1) := by decide +kernel
theorem dX3_walk_1 : decode cX3_walk 1 = .ok (.ifCond .le 27, 3) := by decide +kernel
theorem dX3_walk_4 : decode cX3_walk 4 = .ok (.aload_n 0, 1) := by decide +kernel
theorem dX3_walk_5 : decode cX3_walk 5 = .ok (.getfield 31, 3) := by decide +kernel
theorem dX3_walk_8 : decode cX3_walk 8 = .ok (.iload_n 1, 1) := by decide +kernel
theorem dX3_walk_9 : decode cX3_walk 9 = .ok (.aaload, 1) := by decide +kernel
theorem dX3_walk_10 : decode cX3_walk 10 = .ok (.aload_n 0, 1) := by decide +kernel
theorem dX3_walk_11 : decode cX3_walk 11 = .ok (.getfield 34, 3) := by decide +kernel
theorem dX3_walk_14 : decode cX3_walk 14 = .ok (.iload_n 1, 1) := by decide +kernel
theorem dX3_walk_15 : decode cX3_walk 15 = .ok (.iaload, 1) := by decide +kernel
theorem dX3_walk_16 : decode cX3_walk 16 = .ok (.iload_n 2, 1) := by decide +kernel
theorem dX3_walk_17 : decode cX3_walk 17 = .ok (.iastore, 1) := by decide +kernel
theorem dX3_walk_18 : decode cX3_walk 18 = .ok (.aload_n 0, 1) := by decide +kernel
theorem dX3_walk_19 : decode cX3_walk 19 = .ok (.getfield 34, 3) := by decide +kernel
theorem dX3_walk_22 : decode cX3_walk 22 = .ok (.iload_n 1, 1) := by decide +kernel
theorem dX3_walk_23 : decode cX3_walk 23 = .ok (.dup2, 1) := by decide +kernel
theorem dX3_walk_24 : decode cX3_walk 24 = .ok (.iaload, 1) := by decide +kernel
theorem dX3_walk_25 : decode cX3_walk 25 = .ok (.iconst 1, 1) := by decide +kernel
theorem dX3_walk_26 : decode cX3_walk 26 = .ok (.iadd, 1) := by decide +kernel
theorem dX3_walk_27 : decode cX3_walk 27 = .ok (.iastore, 1) := by decide +kernel
theorem dX3_walk_28 : decode cX3_walk 28 = .ok (.aload_n 0, 1) := by decide +kernel
theorem dX3_walk_29 : decode cX3_walk 29 = .ok (.getfield 24, 3) := by decide +kernel
theorem dX3_walk_32 : decode cX3_walk 32 = .ok (.iload_n 1, 1) := by decide +kernel
theorem dX3_walk_33 : decode cX3_walk 33 = .ok (.aaload, 1) := by decide +kernel
theorem dX3_walk_34 : decode cX3_walk 34 = .ok (.iload_n 2, 1) := by decide +kernel
theorem dX3_walk_35 : decode cX3_walk 35 = .ok (.iaload, 1) := by decide +kernel
theorem dX3_walk_36 : decode cX3_walk 36 = .ok (.ifCond .le 36, 3) := by decide +kernel
theorem dX3_walk_39 : decode cX3_walk 39 = .ok (.aload_n 0, 1) := by decide +kernel
theorem dX3_walk_40 : decode cX3_walk 40 = .ok (.getfield 37, 3) := by decide +kernel
theorem dX3_walk_43 : decode cX3_walk 43 = .ok (.iload_n 1, 1) := by decide +kernel
theorem dX3_walk_44 : decode cX3_walk 44 = .ok (.aaload, 1) := by decide +kernel
theorem dX3_walk_45 : decode cX3_walk 45 = .ok (.aload_n 0, 1) := by decide +kernel
theorem dX3_walk_46 : decode cX3_walk 46 = .ok (.getfield 40, 3) := by decide +kernel
theorem dX3_walk_49 : decode cX3_walk 49 = .ok (.iload_n 1, 1) := by decide +kernel
theorem dX3_walk_50 : decode cX3_walk 50 = .ok (.iaload, 1) := by decide +kernel
theorem dX3_walk_51 : decode cX3_walk 51 = .ok (.aload_n 0, 1) := by decide +kernel
theorem dX3_walk_52 : decode cX3_walk 52 = .ok (.getfield 24, 3) := by decide +kernel
theorem dX3_walk_55 : decode cX3_walk 55 = .ok (.iload_n 1, 1) := by decide +kernel
theorem dX3_walk_56 : decode cX3_walk 56 = .ok (.aaload, 1) := by decide +kernel
theorem dX3_walk_57 : decode cX3_walk 57 = .ok (.iload_n 2, 1) := by decide +kernel
theorem dX3_walk_58 : decode cX3_walk 58 = .ok (.iaload, 1) := by decide +kernel
theorem dX3_walk_59 : decode cX3_walk 59 = .ok (.iconst 1, 1) := by decide +kernel
theorem dX3_walk_60 : decode cX3_walk 60 = .ok (.isub, 1) := by decide +kernel
theorem dX3_walk_61 : decode cX3_walk 61 = .ok (.iastore, 1) := by decide +kernel
theorem dX3_walk_62 : decode cX3_walk 62 = .ok (.aload_n 0, 1) := by decide +kernel
theorem dX3_walk_63 : decode cX3_walk 63 = .ok (.getfield 40, 3) := by decide +kernel
theorem dX3_walk_66 : decode cX3_walk 66 = .ok (.iload_n 1, 1) := by decide +kernel
theorem dX3_walk_67 : decode cX3_walk 67 = .ok (.dup2, 1) := by decide +kernel
theorem dX3_walk_68 : decode cX3_walk 68 = .ok (.iaload, 1) := by decide +kernel
theorem dX3_walk_69 : decode cX3_walk 69 = .ok (.iconst 1, 1) := by decide +kernel
theorem dX3_walk_70 : decode cX3_walk 70 = .ok (.iadd, 1) := by decide +kernel
theorem dX3_walk_71 : decode cX3_walk 71 = .ok (.iastore, 1) := by decide +kernel
theorem dX3_walk_72 : decode cX3_walk 72 = .ok (.iconst 0, 1) := by decide +kernel
theorem dX3_walk_73 : decode cX3_walk 73 = .ok (.istore_n 3, 1) := by decide +kernel
theorem dX3_walk_74 : decode cX3_walk 74 = .ok (.iload_n 3, 1) := by decide +kernel
theorem dX3_walk_75 : decode cX3_walk 75 = .ok (.bipush 9, 2) := by decide +kernel
theorem dX3_walk_77 : decode cX3_walk 77 = .ok (.if_icmp .ge 46, 3) := by decide +kernel
theorem dX3_walk_80 : decode cX3_walk 80 = .ok (.aload_n 0, 1) := by decide +kernel
theorem dX3_walk_81 : decode cX3_walk 81 = .ok (.getfield 7, 3) := by decide +kernel
theorem dX3_walk_84 : decode cX3_walk 84 = .ok (.bipush 9, 2) := by decide +kernel
theorem dX3_walk_86 : decode cX3_walk 86 = .ok (.iload_n 2, 1) := by decide +kernel
theorem dX3_walk_87 : decode cX3_walk 87 = .ok (.imul, 1) := by decide +kernel
theorem dX3_walk_88 : decode cX3_walk 88 = .ok (.iload_n 3, 1) := by decide +kernel
theorem dX3_walk_89 : decode cX3_walk 89 = .ok (.iadd, 1) := by decide +kernel
theorem dX3_walk_90 : decode cX3_walk 90 = .ok (.iaload, 1) := by decide +kernel
theorem dX3_walk_91 : decode cX3_walk 91 = .ok (.istore 4, 2) := by decide +kernel
theorem dX3_walk_93 : decode cX3_walk 93 = .ok (.iload 4, 2) := by decide +kernel
theorem dX3_walk_95 : decode cX3_walk 95 = .ok (.ifCond .le 22, 3) := by decide +kernel
theorem dX3_walk_98 : decode cX3_walk 98 = .ok (.aload_n 0, 1) := by decide +kernel
theorem dX3_walk_99 : decode cX3_walk 99 = .ok (.getfield 18, 3) := by decide +kernel
theorem dX3_walk_102 : decode cX3_walk 102 = .ok (.iload_n 1, 1) := by decide +kernel
theorem dX3_walk_103 : decode cX3_walk 103 = .ok (.aaload, 1) := by decide +kernel
theorem dX3_walk_104 : decode cX3_walk 104 = .ok (.iload 4, 2) := by decide +kernel
theorem dX3_walk_106 : decode cX3_walk 106 = .ok (.iaload, 1) := by decide +kernel
theorem dX3_walk_107 : decode cX3_walk 107 = .ok (.ifCond .le 10, 3) := by decide +kernel
theorem dX3_walk_110 : decode cX3_walk 110 = .ok (.aload_n 0, 1) := by decide +kernel
theorem dX3_walk_111 : decode cX3_walk 111 = .ok (.iload_n 1, 1) := by decide +kernel
theorem dX3_walk_112 : decode cX3_walk 112 = .ok (.iload 4, 2) := by decide +kernel
theorem dX3_walk_114 : decode cX3_walk 114 = .ok (.invokevirtual 47, 3) := by decide +kernel
theorem dX3_walk_117 : decode cX3_walk 117 = .ok (.iinc 3 1, 3) := by decide +kernel
theorem dX3_walk_120 : decode cX3_walk 120 = .ok (.goto (-46), 3) := by decide +kernel
theorem dX3_walk_123 : decode cX3_walk 123 = .ok (.return_, 1) := by decide +kernel
theorem dX3_repeat_0 : decode cX3_repeat 0 = .ok (.iconst 0, 1) := by decide +kernel
theorem dX3_repeat_1 : decode cX3_repeat 1 = .ok (.istore_n 2, 1) := by decide +kernel
theorem dX3_repeat_2 : decode cX3_repeat 2 = .ok (.iconst 0, 1) := by decide +kernel
theorem dX3_repeat_3 : decode cX3_repeat 3 = .ok (.istore_n 3, 1) := by decide +kernel
theorem dX3_repeat_4 : decode cX3_repeat 4 = .ok (.iload_n 3, 1) := by decide +kernel
theorem dX3_repeat_5 : decode cX3_repeat 5 = .ok (.aload_n 0, 1) := by decide +kernel
theorem dX3_repeat_6 : decode cX3_repeat 6 = .ok (.getfield 34, 3) := by decide +kernel
theorem dX3_repeat_9 : decode cX3_repeat 9 = .ok (.iload_n 1, 1) := by decide +kernel
theorem dX3_repeat_10 : decode cX3_repeat 10 = .ok (.iaload, 1) := by decide +kernel
theorem dX3_repeat_11 : decode cX3_repeat 11 = .ok (.if_icmp .ge 51, 3) := by decide +kernel
theorem dX3_repeat_14 : decode cX3_repeat 14 = .ok (.aload_n 0, 1) := by decide +kernel
theorem dX3_repeat_15 : decode cX3_repeat 15 = .ok (.getfield 31, 3) := by decide +kernel
theorem dX3_repeat_18 : decode cX3_repeat 18 = .ok (.iload_n 1, 1) := by decide +kernel
theorem dX3_repeat_19 : decode cX3_repeat 19 = .ok (.aaload, 1) := by decide +kernel
theorem dX3_repeat_20 : decode cX3_repeat 20 = .ok (.iload_n 3, 1) := by decide +kernel
theorem dX3_repeat_21 : decode cX3_repeat 21 = .ok (.iaload, 1) := by decide +kernel
theorem dX3_repeat_22 : decode cX3_repeat 22 = .ok (.istore 4, 2) := by decide +kernel
theorem dX3_repeat_24 : decode cX3_repeat 24 = .ok (.aload_n 0, 1) := by decide +kernel
theorem dX3_repeat_25 : decode cX3_repeat 25 = .ok (.getfield 18, 3) := by decide +kernel
theorem dX3_repeat_28 : decode cX3_repeat 28 = .ok (.iload_n 1, 1) := by decide +kernel
theorem dX3_repeat_29 : decode cX3_repeat 29 = .ok (.aaload, 1) := by decide +kernel
theorem dX3_repeat_30 : decode cX3_repeat 30 = .ok (.iload 4, 2) := by decide +kernel
theorem dX3_repeat_32 : decode cX3_repeat 32 = .ok (.iaload, 1) := by decide +kernel
theorem dX3_repeat_33 : decode cX3_repeat 33 = .ok (.iconst 1, 1) := by decide +kernel
theorem dX3_repeat_34 : decode cX3_repeat 34 = .ok (.if_icmp .le 22, 3) := by decide +kernel
theorem dX3_repeat_37 : decode cX3_repeat 37 = .ok (.aload_n 0, 1) := by decide +kernel
theorem dX3_repeat_38 : decode cX3_repeat 38 = .ok (.getfield 13, 3) := by decide +kernel
theorem dX3_repeat_41 : decode cX3_repeat 41 = .ok (.iload 4, 2) := by decide +kernel
theorem dX3_repeat_43 : decode cX3_repeat 43 = .ok (.iaload, 1) := by decide +kernel
theorem dX3_repeat_44 : decode cX3_repeat 44 = .ok (.aload_n 0, 1) := by decide +kernel
theorem dX3_repeat_45 : decode cX3_repeat 45 = .ok (.getfield 13, 3) := by decide +kernel
theorem dX3_repeat_48 : decode cX3_repeat 48 = .ok (.iload_n 2, 1) := by decide +kernel
theorem dX3_repeat_49 : decode cX3_repeat 49 = .ok (.iaload, 1) := by decide +kernel
theorem dX3_repeat_50 : decode cX3_repeat 50 = .ok (.if_icmp .le 6, 3) := by decide +kernel
theorem dX3_repeat_53 : decode cX3_repeat 53 = .ok (.iload 4, 2) := by decide +kernel
theorem dX3_repeat_55 : decode cX3_repeat 55 = .ok (.istore_n 2, 1) := by decide +kernel
theorem dX3_repeat_56 : decode cX3_repeat 56 = .ok (.iinc 3 1, 3) := by decide +kernel
theorem dX3_repeat_59 : decode cX3_repeat 59 = .ok (.goto (-55), 3) := by decide +kernel
theorem dX3_repeat_62 : decode cX3_repeat 62 = .ok (.iload_n 2, 1) := by decide +kernel
theorem dX3_repeat_63 : decode cX3_repeat 63 = .ok (.ifCond .ne 21, 3) := by decide +kernel
theorem dX3_repeat_66 : decode cX3_repeat 66 = .ok (.iconst 3, 1) := by decide +kernel
theorem dX3_repeat_67 : decode cX3_repeat 67 = .ok (.newarray .int, 2) := by decide +kernel
theorem dX3_repeat_69 : decode cX3_repeat 69 = .ok (.dup, 1) := by decide +kernel
theorem dX3_repeat_70 : decode cX3_repeat 70 = .ok (.iconst 0, 1) := by decide +kernel
theorem dX3_repeat_71 : decode cX3_repeat 71 = .ok (.iconst 0, 1) := by decide +kernel
theorem dX3_repeat_72 : decode cX3_repeat 72 = .ok (.iastore, 1) := by decide +kernel
theorem dX3_repeat_73 : decode cX3_repeat 73 = .ok (.dup, 1) := by decide +kernel
theorem dX3_repeat_74 : decode cX3_repeat 74 = .ok (.iconst 1, 1) := by decide +kernel
theorem dX3_repeat_75 : decode cX3_repeat 75 = .ok (.iconst (-1), 1) := by decide +kernel
theorem dX3_repeat_76 : decode cX3_repeat 76 = .ok (.iastore, 1) := by decide +kernel
theorem dX3_repeat_77 : decode cX3_repeat 77 = .ok (.dup, 1) := by decide +kernel
theorem dX3_repeat_78 : decode cX3_repeat 78 = .ok (.iconst 2, 1) := by decide +kernel
theorem dX3_repeat_79 : decode cX3_repeat 79 = .ok (.iconst 0, 1) := by decide +kernel
theorem dX3_repeat_80 : decode cX3_repeat 80 = .ok (.iastore, 1) := by decide +kernel
theorem dX3_repeat_81 : decode cX3_repeat 81 = .ok (.goto 37, 3) := by decide +kernel
theorem dX3_repeat_84 : decode cX3_repeat 84 = .ok (.iconst 3, 1) := by decide +kernel
theorem dX3_repeat_85 : decode cX3_repeat 85 = .ok (.newarray .int, 2) := by decide +kernel
theorem dX3_repeat_87 : decode cX3_repeat 87 = .ok (.dup, 1) := by decide +kernel
theorem dX3_repeat_88 : decode cX3_repeat 88 = .ok (.iconst 0, 1) := by decide +kernel
theorem dX3_repeat_89 : decode cX3_repeat 89 = .ok (.aload_n 0, 1) := by decide +kernel
theorem dX3_repeat_90 : decode cX3_repeat 90 = .ok (.getfield 13, 3) := by decide +kernel
theorem dX3_repeat_93 : decode cX3_repeat 93 = .ok (.iload_n 2, 1) := by decide +kernel
theorem dX3_repeat_94 : decode cX3_repeat 94 = .ok (.iaload, 1) := by decide +kernel
theorem dX3_repeat_95 : decode cX3_repeat 95 = .ok (.iastore, 1) := by decide +kernel
theorem dX3_repeat_96 : decode cX3_repeat 96 = .ok (.dup, 1) := by decide +kernel
theorem dX3_repeat_97 : decode cX3_repeat 97 = .ok (.iconst 1, 1) := by decide +kernel
theorem dX3_repeat_98 : decode cX3_repeat 98 = .ok (.aload_n 0, 1) := by decide +kernel
theorem dX3_repeat_99 : decode cX3_repeat 99 = .ok (.getfield 21, 3) := by decide +kernel
theorem dX3_repeat_102 : decode cX3_repeat 102 = .ok (.iload_n 1, 1) := by decide +kernel
theorem dX3_repeat_103 : decode cX3_repeat 103 = .ok (.aaload, 1) := by decide +kernel
theorem dX3_repeat_104 : decode cX3_repeat 104 = .ok (.iload_n 2, 1) := by decide +kernel
theorem dX3_repeat_105 : decode cX3_repeat 105 = .ok (.iaload, 1) := by decide +kernel
theorem dX3_repeat_106 : decode cX3_repeat 106 = .ok (.iastore, 1) := by decide +kernel
theorem dX3_repeat_107 : decode cX3_repeat 107 = .ok (.dup, 1) := by decide +kernel
theorem dX3_repeat_108 : decode cX3_repeat 108 = .ok (.iconst 2, 1) := by decide +kernel
theorem dX3_repeat_109 : decode cX3_repeat 109 = .ok (.aload_n 0, 1) := by decide +kernel
theorem dX3_repeat_110 : decode cX3_repeat 110 = .ok (.getfield 18, 3) := by decide +kernel
theorem dX3_repeat_113 : decode cX3_repeat 113 = .ok (.iload_n 1, 1) := by decide +kernel
theorem dX3_repeat_114 : decode cX3_repeat 114 = .ok (.aaload, 1) := by decide +kernel
theorem dX3_repeat_115 : decode cX3_repeat 115 = .ok (.iload_n 2, 1) := by decide +kernel
theorem dX3_repeat_116 : decode cX3_repeat 116 = .ok (.iaload, 1) := by decide +kernel
theorem dX3_repeat_117 : decode cX3_repeat 117 = .ok (.iastore, 1) := by decide +kernel
theorem dX3_repeat_118 : decode cX3_repeat 118 = .ok (.areturn, 1) := by decide +kernel
theorem dX3_seam_0 : decode cX3_seam 0 = .ok (.iconst 0, 1) := by decide +kernel
theorem dX3_seam_1 : decode cX3_seam 1 = .ok (.istore_n 1, 1) := by decide +kernel
theorem dX3_seam_2 : decode cX3_seam 2 = .ok (.iconst 0, 1) := by decide +kernel
theorem dX3_seam_3 : decode cX3_seam 3 = .ok (.istore_n 2, 1) := by decide +kernel
theorem dX3_seam_4 : decode cX3_seam 4 = .ok (.iload_n 2, 1) := by decide +kernel
theorem dX3_seam_5 : decode cX3_seam 5 = .ok (.aload_n 0, 1) := by decide +kernel
theorem dX3_seam_6 : decode cX3_seam 6 = .ok (.getfield 34, 3) := by decide +kernel
theorem dX3_seam_9 : decode cX3_seam 9 = .ok (.iconst 0, 1) := by decide +kernel
theorem dX3_seam_10 : decode cX3_seam 10 = .ok (.iaload, 1) := by decide +kernel
theorem dX3_seam_11 : decode cX3_seam 11 = .ok (.if_icmp .ge 46, 3) := by decide +kernel
theorem dX3_seam_14 : decode cX3_seam 14 = .ok (.aload_n 0, 1) := by decide +kernel
theorem dX3_seam_15 : decode cX3_seam 15 = .ok (.getfield 31, 3) := by decide +kernel
theorem dX3_seam_18 : decode cX3_seam 18 = .ok (.iconst 0, 1) := by decide +kernel
theorem dX3_seam_19 : decode cX3_seam 19 = .ok (.aaload, 1) := by decide +kernel
theorem dX3_seam_20 : decode cX3_seam 20 = .ok (.iload_n 2, 1) := by decide +kernel
theorem dX3_seam_21 : decode cX3_seam 21 = .ok (.iaload, 1) := by decide +kernel
theorem dX3_seam_22 : decode cX3_seam 22 = .ok (.istore_n 3, 1) := by decide +kernel
theorem dX3_seam_23 : decode cX3_seam 23 = .ok (.aload_n 0, 1) := by decide +kernel
theorem dX3_seam_24 : decode cX3_seam 24 = .ok (.getfield 18, 3) := by decide +kernel
theorem dX3_seam_27 : decode cX3_seam 27 = .ok (.iconst 1, 1) := by decide +kernel
theorem dX3_seam_28 : decode cX3_seam 28 = .ok (.aaload, 1) := by decide +kernel
theorem dX3_seam_29 : decode cX3_seam 29 = .ok (.iload_n 3, 1) := by decide +kernel
theorem dX3_seam_30 : decode cX3_seam 30 = .ok (.iaload, 1) := by decide +kernel
theorem dX3_seam_31 : decode cX3_seam 31 = .ok (.ifCond .le 20, 3) := by decide +kernel
theorem dX3_seam_34 : decode cX3_seam 34 = .ok (.aload_n 0, 1) := by decide +kernel
theorem dX3_seam_35 : decode cX3_seam 35 = .ok (.getfield 13, 3) := by decide +kernel
theorem dX3_seam_38 : decode cX3_seam 38 = .ok (.iload_n 3, 1) := by decide +kernel
theorem dX3_seam_39 : decode cX3_seam 39 = .ok (.iaload, 1) := by decide +kernel
theorem dX3_seam_40 : decode cX3_seam 40 = .ok (.aload_n 0, 1) := by decide +kernel
theorem dX3_seam_41 : decode cX3_seam 41 = .ok (.getfield 13, 3) := by decide +kernel
theorem dX3_seam_44 : decode cX3_seam 44 = .ok (.iload_n 1, 1) := by decide +kernel
theorem dX3_seam_45 : decode cX3_seam 45 = .ok (.iaload, 1) := by decide +kernel
theorem dX3_seam_46 : decode cX3_seam 46 = .ok (.if_icmp .le 5, 3) := by decide +kernel
theorem dX3_seam_49 : decode cX3_seam 49 = .ok (.iload_n 3, 1) := by decide +kernel
theorem dX3_seam_50 : decode cX3_seam 50 = .ok (.istore_n 1, 1) := by decide +kernel
theorem dX3_seam_51 : decode cX3_seam 51 = .ok (.iinc 2 1, 3) := by decide +kernel
theorem dX3_seam_54 : decode cX3_seam 54 = .ok (.goto (-50), 3) := by decide +kernel
theorem dX3_seam_57 : decode cX3_seam 57 = .ok (.iload_n 1, 1) := by decide +kernel
theorem dX3_seam_58 : decode cX3_seam 58 = .ok (.ifCond .ne 21, 3) := by decide +kernel
theorem dX3_seam_61 : decode cX3_seam 61 = .ok (.iconst 3, 1) := by decide +kernel
theorem dX3_seam_62 : decode cX3_seam 62 = .ok (.newarray .int, 2) := by decide +kernel
theorem dX3_seam_64 : decode cX3_seam 64 = .ok (.dup, 1) := by decide +kernel
theorem dX3_seam_65 : decode cX3_seam 65 = .ok (.iconst 0, 1) := by decide +kernel
theorem dX3_seam_66 : decode cX3_seam 66 = .ok (.iconst 0, 1) := by decide +kernel
theorem dX3_seam_67 : decode cX3_seam 67 = .ok (.iastore, 1) := by decide +kernel
theorem dX3_seam_68 : decode cX3_seam 68 = .ok (.dup, 1) := by decide +kernel
theorem dX3_seam_69 : decode cX3_seam 69 = .ok (.iconst 1, 1) := by decide +kernel
theorem dX3_seam_70 : decode cX3_seam 70 = .ok (.iconst (-1), 1) := by decide +kernel
theorem dX3_seam_71 : decode cX3_seam 71 = .ok (.iastore, 1) := by decide +kernel
theorem dX3_seam_72 : decode cX3_seam 72 = .ok (.dup, 1) := by decide +kernel
theorem dX3_seam_73 : decode cX3_seam 73 = .ok (.iconst 2, 1) := by decide +kernel
theorem dX3_seam_74 : decode cX3_seam 74 = .ok (.iconst (-1), 1) := by decide +kernel
theorem dX3_seam_75 : decode cX3_seam 75 = .ok (.iastore, 1) := by decide +kernel
theorem dX3_seam_76 : decode cX3_seam 76 = .ok (.goto 37, 3) := by decide +kernel
theorem dX3_seam_79 : decode cX3_seam 79 = .ok (.iconst 3, 1) := by decide +kernel
theorem dX3_seam_80 : decode cX3_seam 80 = .ok (.newarray .int, 2) := by decide +kernel
theorem dX3_seam_82 : decode cX3_seam 82 = .ok (.dup, 1) := by decide +kernel
theorem dX3_seam_83 : decode cX3_seam 83 = .ok (.iconst 0, 1) := by decide +kernel
theorem dX3_seam_84 : decode cX3_seam 84 = .ok (.aload_n 0, 1) := by decide +kernel
theorem dX3_seam_85 : decode cX3_seam 85 = .ok (.getfield 13, 3) := by decide +kernel
theorem dX3_seam_88 : decode cX3_seam 88 = .ok (.iload_n 1, 1) := by decide +kernel
theorem dX3_seam_89 : decode cX3_seam 89 = .ok (.iaload, 1) := by decide +kernel
theorem dX3_seam_90 : decode cX3_seam 90 = .ok (.iastore, 1) := by decide +kernel
theorem dX3_seam_91 : decode cX3_seam 91 = .ok (.dup, 1) := by decide +kernel
theorem dX3_seam_92 : decode cX3_seam 92 = .ok (.iconst 1, 1) := by decide +kernel
theorem dX3_seam_93 : decode cX3_seam 93 = .ok (.aload_n 0, 1) := by decide +kernel
theorem dX3_seam_94 : decode cX3_seam 94 = .ok (.getfield 21, 3) := by decide +kernel
theorem dX3_seam_97 : decode cX3_seam 97 = .ok (.iconst 0, 1) := by decide +kernel
theorem dX3_seam_98 : decode cX3_seam 98 = .ok (.aaload, 1) := by decide +kernel
theorem dX3_seam_99 : decode cX3_seam 99 = .ok (.iload_n 1, 1) := by decide +kernel
theorem dX3_seam_100 : decode cX3_seam 100 = .ok (.iaload, 1) := by decide +kernel
theorem dX3_seam_101 : decode cX3_seam 101 = .ok (.iastore, 1) := by decide +kernel
theorem dX3_seam_102 : decode cX3_seam 102 = .ok (.dup, 1) := by decide +kernel
theorem dX3_seam_103 : decode cX3_seam 103 = .ok (.iconst 2, 1) := by decide +kernel
theorem dX3_seam_104 : decode cX3_seam 104 = .ok (.aload_n 0, 1) := by decide +kernel
theorem dX3_seam_105 : decode cX3_seam 105 = .ok (.getfield 21, 3) := by decide +kernel
theorem dX3_seam_108 : decode cX3_seam 108 = .ok (.iconst 1, 1) := by decide +kernel
theorem dX3_seam_109 : decode cX3_seam 109 = .ok (.aaload, 1) := by decide +kernel
theorem dX3_seam_110 : decode cX3_seam 110 = .ok (.iload_n 1, 1) := by decide +kernel
theorem dX3_seam_111 : decode cX3_seam 111 = .ok (.iaload, 1) := by decide +kernel
theorem dX3_seam_112 : decode cX3_seam 112 = .ok (.iastore, 1) := by decide +kernel
theorem dX3_seam_113 : decode cX3_seam 113 = .ok (.areturn, 1) := by decide +kernel
theorem dX4_init_0 : decode cX4_init 0 = .ok (.aload_n 0, 1) := by decide +kernel
theorem dX4_init_1 : decode cX4_init 1 = .ok (.invokespecial 1, 3) := by decide +kernel
theorem dX4_init_4 : decode cX4_init 4 = .ok (.aload_n 0, 1) := by decide +kernel
theorem dX4_init_5 : decode cX4_init 5 = .ok (.iconst 2, 1) := by decide +kernel
theorem dX4_init_6 : decode cX4_init 6 = .ok (.anewarray 7, 3) := by decide +kernel
theorem dX4_init_9 : decode cX4_init 9 = .ok (.dup, 1) := by decide +kernel
theorem dX4_init_10 : decode cX4_init 10 = .ok (.iconst 0, 1) := by decide +kernel
theorem dX4_init_11 : decode cX4_init 11 = .ok (.iconst 0, 1) := by decide +kernel
theorem dX4_init_12 : decode cX4_init 12 = .ok (.newarray .int, 2) := by decide +kernel
theorem dX4_init_14 : decode cX4_init 14 = .ok (.aastore, 1) := by decide +kernel
theorem dX4_init_15 : decode cX4_init 15 = .ok (.dup, 1) := by decide +kernel
theorem dX4_init_16 : decode cX4_init 16 = .ok (.iconst 1, 1) := by decide +kernel
theorem dX4_init_17 : decode cX4_init 17 = .ok (.iconst 0, 1) := by decide +kernel
theorem dX4_init_18 : decode cX4_init 18 = .ok (.newarray .int, 2) := by decide +kernel
theorem dX4_init_20 : decode cX4_init 20 = .ok (.aastore, 1) := by decide +kernel
theorem dX4_init_21 : decode cX4_init 21 = .ok (.putfield 9, 3) := by decide +kernel
theorem dX4_init_24 : decode cX4_init 24 = .ok (.aload_n 0, 1) := by decide +kernel
theorem dX4_init_25 : decode cX4_init 25 = .ok (.iconst 0, 1) := by decide +kernel
theorem dX4_init_26 : decode cX4_init 26 = .ok (.newarray .int, 2) := by decide +kernel
theorem dX4_init_28 : decode cX4_init 28 = .ok (.putfield 15, 3) := by decide +kernel
theorem dX4_init_31 : decode cX4_init 31 = .ok (.return_, 1) := by decide +kernel
theorem dX4_with_0 : decode cX4_with 0 = .ok (.aload_n 0, 1) := by decide +kernel
theorem dX4_with_1 : decode cX4_with 1 = .ok (.arraylength, 1) := by decide +kernel
theorem dX4_with_2 : decode cX4_with 2 = .ok (.iconst 1, 1) := by decide +kernel
theorem dX4_with_3 : decode cX4_with 3 = .ok (.iadd, 1) := by decide +kernel
theorem dX4_with_4 : decode cX4_with 4 = .ok (.newarray .int, 2) := by decide +kernel
theorem dX4_with_6 : decode cX4_with 6 = .ok (.astore_n 2, 1) := by decide +kernel
theorem dX4_with_7 : decode cX4_with 7 = .ok (.iconst 0, 1) := by decide +kernel
theorem dX4_with_8 : decode cX4_with 8 = .ok (.istore_n 3, 1) := by decide +kernel
theorem dX4_with_9 : decode cX4_with 9 = .ok (.iload_n 3, 1) := by decide +kernel
theorem dX4_with_10 : decode cX4_with 10 = .ok (.aload_n 0, 1) := by decide +kernel
theorem dX4_with_11 : decode cX4_with 11 = .ok (.arraylength, 1) := by decide +kernel
theorem dX4_with_12 : decode cX4_with 12 = .ok (.if_icmp .ge 15, 3) := by decide +kernel
theorem dX4_with_15 : decode cX4_with 15 = .ok (.aload_n 2, 1) := by decide +kernel
theorem dX4_with_16 : decode cX4_with 16 = .ok (.iload_n 3, 1) := by decide +kernel
theorem dX4_with_17 : decode cX4_with 17 = .ok (.aload_n 0, 1) := by decide +kernel
theorem dX4_with_18 : decode cX4_with 18 = .ok (.iload_n 3, 1) := by decide +kernel
theorem dX4_with_19 : decode cX4_with 19 = .ok (.iaload, 1) := by decide +kernel
theorem dX4_with_20 : decode cX4_with 20 = .ok (.iastore, 1) := by decide +kernel
theorem dX4_with_21 : decode cX4_with 21 = .ok (.iinc 3 1, 3) := by decide +kernel
theorem dX4_with_24 : decode cX4_with 24 = .ok (.goto (-15), 3) := by decide +kernel
theorem dX4_with_27 : decode cX4_with 27 = .ok (.aload_n 2, 1) := by decide +kernel
theorem dX4_with_28 : decode cX4_with 28 = .ok (.aload_n 0, 1) := by decide +kernel
theorem dX4_with_29 : decode cX4_with 29 = .ok (.arraylength, 1) := by decide +kernel
theorem dX4_with_30 : decode cX4_with 30 = .ok (.iload_n 1, 1) := by decide +kernel
theorem dX4_with_31 : decode cX4_with 31 = .ok (.iastore, 1) := by decide +kernel
theorem dX4_with_32 : decode cX4_with 32 = .ok (.aload_n 2, 1) := by decide +kernel
theorem dX4_with_33 : decode cX4_with 33 = .ok (.areturn, 1) := by decide +kernel
theorem dX4_cut_0 : decode cX4_cut 0 = .ok (.iload_n 1, 1) := by decide +kernel
theorem dX4_cut_1 : decode cX4_cut 1 = .ok (.newarray .int, 2) := by decide +kernel
theorem dX4_cut_3 : decode cX4_cut 3 = .ok (.astore_n 2, 1) := by decide +kernel
theorem dX4_cut_4 : decode cX4_cut 4 = .ok (.iconst 0, 1) := by decide +kernel
theorem dX4_cut_5 : decode cX4_cut 5 = .ok (.istore_n 3, 1) := by decide +kernel
theorem dX4_cut_6 : decode cX4_cut 6 = .ok (.iload_n 3, 1) := by decide +kernel
theorem dX4_cut_7 : decode cX4_cut 7 = .ok (.iload_n 1, 1) := by decide +kernel
theorem dX4_cut_8 : decode cX4_cut 8 = .ok (.if_icmp .ge 15, 3) := by decide +kernel
theorem dX4_cut_11 : decode cX4_cut 11 = .ok (.aload_n 2, 1) := by decide +kernel
theorem dX4_cut_12 : decode cX4_cut 12 = .ok (.iload_n 3, 1) := by decide +kernel
theorem dX4_cut_13 : decode cX4_cut 13 = .ok (.aload_n 0, 1) := by decide +kernel
theorem dX4_cut_14 : decode cX4_cut 14 = .ok (.iload_n 3, 1) := by decide +kernel
theorem dX4_cut_15 : decode cX4_cut 15 = .ok (.iaload, 1) := by decide +kernel
theorem dX4_cut_16 : decode cX4_cut 16 = .ok (.iastore, 1) := by decide +kernel
theorem dX4_cut_17 : decode cX4_cut 17 = .ok (.iinc 3 1, 3) := by decide +kernel
theorem dX4_cut_20 : decode cX4_cut 20 = .ok (.goto (-14), 3) := by decide +kernel
theorem dX4_cut_23 : decode cX4_cut 23 = .ok (.aload_n 2, 1) := by decide +kernel
theorem dX4_cut_24 : decode cX4_cut 24 = .ok (.areturn, 1) := by decide +kernel
set_option maxRecDepth 20000 in
theorem ggX4_placesOfSample_L_common : GoodIn wsX4_placesOfSample wsL_common := goodIn_r _ [6] (by decide +kernel) (by decide +kernel)
set_option maxRecDepth 20000 in
theorem gX4_placesOfSample_L_common_n18 : GoodIn wsX4_placesOfSample (wsL_common) := ggX4_placesOfSample_L_common
theorem dX4_placesOfSample_0 : decode cX4_placesOfSample 0 = .ok (.iconst 2, 1) := by decide +kernel
theorem dX4_placesOfSample_1 : decode cX4_placesOfSample 1 = .ok (.newarray .int, 2) := by decide +kernel
theorem dX4_placesOfSample_3 : decode cX4_placesOfSample 3 = .ok (.dup, 1) := by decide +kernel
theorem dX4_placesOfSample_4 : decode cX4_placesOfSample 4 = .ok (.iconst 0, 1) := by decide +kernel
theorem dX4_placesOfSample_5 : decode cX4_placesOfSample 5 = .ok (.iconst 0, 1) := by decide +kernel
theorem dX4_placesOfSample_6 : decode cX4_placesOfSample 6 = .ok (.iastore, 1) := by decide +kernel
theorem dX4_placesOfSample_7 : decode cX4_placesOfSample 7 = .ok (.dup, 1) := by decide +kernel
theorem dX4_placesOfSample_8 : decode cX4_placesOfSample 8 = .ok (.iconst 1, 1) := by decide +kernel
theorem dX4_placesOfSample_9 : decode cX4_placesOfSample 9 = .ok (.iconst (-1), 1) := by decide +kernel
theorem dX4_placesOfSample_10 : decode cX4_placesOfSample 10 = .ok (.iastore, 1) := by decide +kernel
theorem dX4_placesOfSample_11 : decode cX4_placesOfSample 11 = .ok (.astore_n 2, 1) := by decide +kernel
theorem dX4_placesOfSample_12 : decode cX4_placesOfSample 12 = .ok (.aload_n 0, 1) := by decide +kernel
theorem dX4_placesOfSample_13 : decode cX4_placesOfSample 13 = .ok (.getfield 9, 3) := by decide +kernel
theorem dX4_placesOfSample_16 : decode cX4_placesOfSample 16 = .ok (.iload_n 1, 1) := by decide +kernel
theorem dX4_placesOfSample_17 : decode cX4_placesOfSample 17 = .ok (.aaload, 1) := by decide +kernel
theorem dX4_placesOfSample_18 : decode cX4_placesOfSample 18 = .ok (.arraylength, 1) := by decide +kernel
theorem dX4_placesOfSample_19 : decode cX4_placesOfSample 19 = .ok (.iconst 1, 1) := by decide +kernel
theorem dX4_placesOfSample_20 : decode cX4_placesOfSample 20 = .ok (.isub, 1) := by decide +kernel
theorem dX4_placesOfSample_21 : decode cX4_placesOfSample 21 = .ok (.istore_n 3, 1) := by decide +kernel
theorem dX4_placesOfSample_22 : decode cX4_placesOfSample 22 = .ok (.iload_n 3, 1) := by decide +kernel
theorem dX4_placesOfSample_23 : decode cX4_placesOfSample 23 = .ok (.ifCond .lt 54, 3) := by decide +kernel
theorem dX4_placesOfSample_26 : decode cX4_placesOfSample 26 = .ok (.aload_n 0, 1) := by decide +kernel
theorem dX4_placesOfSample_27 : decode cX4_placesOfSample 27 = .ok (.getfield 15, 3) := by decide +kernel
theorem dX4_placesOfSample_30 : decode cX4_placesOfSample 30 = .ok (.arraylength, 1) := by decide +kernel
theorem dX4_placesOfSample_31 : decode cX4_placesOfSample 31 = .ok (.ifCond .le 46, 3) := by decide +kernel
theorem dX4_placesOfSample_34 : decode cX4_placesOfSample 34 = .ok (.aload_n 0, 1) := by decide +kernel
theorem dX4_placesOfSample_35 : decode cX4_placesOfSample 35 = .ok (.getfield 9, 3) := by decide +kernel
theorem dX4_placesOfSample_38 : decode cX4_placesOfSample 38 = .ok (.iload_n 1, 1) := by decide +kernel
theorem dX4_placesOfSample_39 : decode cX4_placesOfSample 39 = .ok (.aaload, 1) := by decide +kernel
theorem dX4_placesOfSample_40 : decode cX4_placesOfSample 40 = .ok (.iload_n 3, 1) := by decide +kernel
theorem dX4_placesOfSample_41 : decode cX4_placesOfSample 41 = .ok (.aload_n 0, 1) := by decide +kernel
theorem dX4_placesOfSample_42 : decode cX4_placesOfSample 42 = .ok (.getfield 15, 3) := by decide +kernel
theorem dX4_placesOfSample_45 : decode cX4_placesOfSample 45 = .ok (.iconst 0, 1) := by decide +kernel
theorem dX4_placesOfSample_46 : decode cX4_placesOfSample 46 = .ok (.invokestatic 18, 3) := by decide +kernel
theorem dX4_placesOfSample_49 : decode cX4_placesOfSample 49 = .ok (.aload_n 0, 1) := by decide +kernel
theorem dX4_placesOfSample_50 : decode cX4_placesOfSample 50 = .ok (.getfield 15, 3) := by decide +kernel
theorem dX4_placesOfSample_53 : decode cX4_placesOfSample 53 = .ok (.arraylength, 1) := by decide +kernel
theorem dX4_placesOfSample_54 : decode cX4_placesOfSample 54 = .ok (.if_icmp .ge 6, 3) := by decide +kernel
theorem dX4_placesOfSample_57 : decode cX4_placesOfSample 57 = .ok (.goto 14, 3) := by decide +kernel
theorem dX4_placesOfSample_60 : decode cX4_placesOfSample 60 = .ok (.aload_n 2, 1) := by decide +kernel
theorem dX4_placesOfSample_61 : decode cX4_placesOfSample 61 = .ok (.iconst 0, 1) := by decide +kernel
theorem dX4_placesOfSample_62 : decode cX4_placesOfSample 62 = .ok (.dup2, 1) := by decide +kernel
theorem dX4_placesOfSample_63 : decode cX4_placesOfSample 63 = .ok (.iaload, 1) := by decide +kernel
theorem dX4_placesOfSample_64 : decode cX4_placesOfSample 64 = .ok (.iconst 1, 1) := by decide +kernel
theorem dX4_placesOfSample_65 : decode cX4_placesOfSample 65 = .ok (.iadd, 1) := by decide +kernel
theorem dX4_placesOfSample_66 : decode cX4_placesOfSample 66 = .ok (.iastore, 1) := by decide +kernel
theorem dX4_placesOfSample_67 : decode cX4_placesOfSample 67 = .ok (.aload_n 2, 1) := by decide +kernel
theorem dX4_placesOfSample_68 : decode cX4_placesOfSample 68 = .ok (.iconst 1, 1) := by decide +kernel
theorem dX4_placesOfSample_69 : decode cX4_placesOfSample 69 = .ok (.iload_n 3, 1) := by decide +kernel
theorem dX4_placesOfSample_70 : decode cX4_placesOfSample 70 = .ok (.iastore, 1) := by decide +kernel
theorem dX4_placesOfSample_71 : decode cX4_placesOfSample 71 = .ok (.iinc 3 (-1), 3) := by decide +kernel
theorem dX4_placesOfSample_74 : decode cX4_placesOfSample 74 = .ok (.goto (-52), 3) := by decide +kernel
theorem dX4_placesOfSample_77 : decode cX4_placesOfSample 77 = .ok (.aload_n 2, 1) := by decide +kernel
theorem dX4_placesOfSample_78 : decode cX4_placesOfSample 78 = .ok (.areturn, 1) := by decide +kernel
set_option maxRecDepth 20000 in
theorem ggX4_period_L_common : GoodIn wsX4_period wsL_common := goodIn_r _ [4] (by decide +kernel) (by decide +kernel)
set_option maxRecDepth 20000 in
theorem gX4_period_L_common_n18 : GoodIn wsX4_period (wsL_common) := ggX4_period_L_common
theorem dX4_period_0 : decode cX4_period 0 = .ok (.aload_n 0, 1) := by decide +kernel
theorem dX4_period_1 : decode cX4_period 1 = .ok (.getfield 9, 3) := by decide +kernel
theorem dX4_period_4 : decode cX4_period 4 = .ok (.iload_n 1, 1) := by decide +kernel
theorem dX4_period_5 : decode cX4_period 5 = .ok (.aaload, 1) := by decide +kernel
theorem dX4_period_6 : decode cX4_period 6 = .ok (.arraylength, 1) := by decide +kernel
theorem dX4_period_7 : decode cX4_period 7 = .ok (.istore_n 2, 1) := by decide +kernel
theorem dX4_period_8 : decode cX4_period 8 = .ok (.iload_n 2, 1) := by decide +kernel
theorem dX4_period_9 : decode cX4_period 9 = .ok (.istore_n 3, 1) := by decide +kernel
theorem dX4_period_10 : decode cX4_period 10 = .ok (.iload_n 2, 1) := by decide +kernel
theorem dX4_period_11 : decode cX4_period 11 = .ok (.iconst 1, 1) := by decide +kernel
theorem dX4_period_12 : decode cX4_period 12 = .ok (.isub, 1) := by decide +kernel
theorem dX4_period_13 : decode cX4_period 13 = .ok (.istore 4, 2) := by decide +kernel
theorem dX4_period_15 : decode cX4_period 15 = .ok (.iload 4, 2) := by decide +kernel
theorem dX4_period_17 : decode cX4_period 17 = .ok (.ifCond .le 37, 3) := by decide +kernel
theorem dX4_period_20 : decode cX4_period 20 = .ok (.aload_n 0, 1) := by decide +kernel
theorem dX4_period_21 : decode cX4_period 21 = .ok (.getfield 9, 3) := by decide +kernel
theorem dX4_period_24 : decode cX4_period 24 = .ok (.iload_n 1, 1) := by decide +kernel
theorem dX4_period_25 : decode cX4_period 25 = .ok (.aaload, 1) := by decide +kernel
theorem dX4_period_26 : decode cX4_period 26 = .ok (.iload 4, 2) := by decide +kernel
theorem dX4_period_28 : decode cX4_period 28 = .ok (.aload_n 0, 1) := by decide +kernel
theorem dX4_period_29 : decode cX4_period 29 = .ok (.getfield 9, 3) := by decide +kernel
theorem dX4_period_32 : decode cX4_period 32 = .ok (.iload_n 1, 1) := by decide +kernel
theorem dX4_period_33 : decode cX4_period 33 = .ok (.aaload, 1) := by decide +kernel
theorem dX4_period_34 : decode cX4_period 34 = .ok (.iconst 0, 1) := by decide +kernel
theorem dX4_period_35 : decode cX4_period 35 = .ok (.invokestatic 18, 3) := by decide +kernel
theorem dX4_period_38 : decode cX4_period 38 = .ok (.iload_n 2, 1) := by decide +kernel
theorem dX4_period_39 : decode cX4_period 39 = .ok (.iload 4, 2) := by decide +kernel
theorem dX4_period_41 : decode cX4_period 41 = .ok (.isub, 1) := by decide +kernel
theorem dX4_period_42 : decode cX4_period 42 = .ok (.if_icmp .ne 6, 3) := by decide +kernel
theorem dX4_period_45 : decode cX4_period 45 = .ok (.iload 4, 2) := by decide +kernel
theorem dX4_period_47 : decode cX4_period 47 = .ok (.istore_n 3, 1) := by decide +kernel
theorem dX4_period_48 : decode cX4_period 48 = .ok (.iinc 4 (-1), 3) := by decide +kernel
theorem dX4_period_51 : decode cX4_period 51 = .ok (.goto (-36), 3) := by decide +kernel
theorem dX4_period_54 : decode cX4_period 54 = .ok (.iload_n 3, 1) := by decide +kernel
theorem dX4_period_55 : decode cX4_period 55 = .ok (.ireturn, 1) := by decide +kernel
set_option maxRecDepth 20000 in
theorem ggX4_turned_L_common : GoodIn wsX4_turned wsL_common := goodIn_r _ [5] (by decide +kernel) (by decide +kernel)
set_option maxRecDepth 20000 in
theorem gX4_turned_L_common_n18 : GoodIn wsX4_turned (wsL_common) := ggX4_turned_L_common
theorem dX4_turned_0 : decode cX4_turned 0 = .ok (.aload_n 0, 1) := by decide +kernel
theorem dX4_turned_1 : decode cX4_turned 1 = .ok (.getfield 9, 3) := by decide +kernel
theorem dX4_turned_4 : decode cX4_turned 4 = .ok (.iload_n 1, 1) := by decide +kernel
theorem dX4_turned_5 : decode cX4_turned 5 = .ok (.aaload, 1) := by decide +kernel
theorem dX4_turned_6 : decode cX4_turned 6 = .ok (.arraylength, 1) := by decide +kernel
theorem dX4_turned_7 : decode cX4_turned 7 = .ok (.istore_n 2, 1) := by decide +kernel
theorem dX4_turned_8 : decode cX4_turned 8 = .ok (.iconst 2, 1) := by decide +kernel
theorem dX4_turned_9 : decode cX4_turned 9 = .ok (.iload_n 2, 1) := by decide +kernel
theorem dX4_turned_10 : decode cX4_turned 10 = .ok (.imul, 1) := by decide +kernel
theorem dX4_turned_11 : decode cX4_turned 11 = .ok (.newarray .int, 2) := by decide +kernel
theorem dX4_turned_13 : decode cX4_turned 13 = .ok (.astore_n 3, 1) := by decide +kernel
theorem dX4_turned_14 : decode cX4_turned 14 = .ok (.iconst 0, 1) := by decide +kernel
theorem dX4_turned_15 : decode cX4_turned 15 = .ok (.istore 4, 2) := by decide +kernel
theorem dX4_turned_17 : decode cX4_turned 17 = .ok (.iload 4, 2) := by decide +kernel
theorem dX4_turned_19 : decode cX4_turned 19 = .ok (.iconst 2, 1) := by decide +kernel
theorem dX4_turned_20 : decode cX4_turned 20 = .ok (.iload_n 2, 1) := by decide +kernel
theorem dX4_turned_21 : decode cX4_turned 21 = .ok (.imul, 1) := by decide +kernel
theorem dX4_turned_22 : decode cX4_turned 22 = .ok (.if_icmp .ge 24, 3) := by decide +kernel
theorem dX4_turned_25 : decode cX4_turned 25 = .ok (.aload_n 3, 1) := by decide +kernel
theorem dX4_turned_26 : decode cX4_turned 26 = .ok (.iload 4, 2) := by decide +kernel
theorem dX4_turned_28 : decode cX4_turned 28 = .ok (.aload_n 0, 1) := by decide +kernel
theorem dX4_turned_29 : decode cX4_turned 29 = .ok (.getfield 9, 3) := by decide +kernel
theorem dX4_turned_32 : decode cX4_turned 32 = .ok (.iload_n 1, 1) := by decide +kernel
theorem dX4_turned_33 : decode cX4_turned 33 = .ok (.aaload, 1) := by decide +kernel
theorem dX4_turned_34 : decode cX4_turned 34 = .ok (.iload 4, 2) := by decide +kernel
theorem dX4_turned_36 : decode cX4_turned 36 = .ok (.iload_n 2, 1) := by decide +kernel
theorem dX4_turned_37 : decode cX4_turned 37 = .ok (.irem, 1) := by decide +kernel
theorem dX4_turned_38 : decode cX4_turned 38 = .ok (.iaload, 1) := by decide +kernel
theorem dX4_turned_39 : decode cX4_turned 39 = .ok (.iastore, 1) := by decide +kernel
theorem dX4_turned_40 : decode cX4_turned 40 = .ok (.iinc 4 1, 3) := by decide +kernel
theorem dX4_turned_43 : decode cX4_turned 43 = .ok (.goto (-26), 3) := by decide +kernel
theorem dX4_turned_46 : decode cX4_turned 46 = .ok (.iload_n 2, 1) := by decide +kernel
theorem dX4_turned_47 : decode cX4_turned 47 = .ok (.iconst 1, 1) := by decide +kernel
theorem dX4_turned_48 : decode cX4_turned 48 = .ok (.isub, 1) := by decide +kernel
theorem dX4_turned_49 : decode cX4_turned 49 = .ok (.istore 4, 2) := by decide +kernel
theorem dX4_turned_51 : decode cX4_turned 51 = .ok (.iload_n 2, 1) := by decide +kernel
theorem dX4_turned_52 : decode cX4_turned 52 = .ok (.iconst 2, 1) := by decide +kernel
theorem dX4_turned_53 : decode cX4_turned 53 = .ok (.isub, 1) := by decide +kernel
theorem dX4_turned_54 : decode cX4_turned 54 = .ok (.istore 5, 2) := by decide +kernel
theorem dX4_turned_56 : decode cX4_turned 56 = .ok (.iload 5, 2) := by decide +kernel
theorem dX4_turned_58 : decode cX4_turned 58 = .ok (.ifCond .lt 47, 3) := by decide +kernel
theorem dX4_turned_61 : decode cX4_turned 61 = .ok (.aload_n 3, 1) := by decide +kernel
theorem dX4_turned_62 : decode cX4_turned 62 = .ok (.iload 5, 2) := by decide +kernel
theorem dX4_turned_64 : decode cX4_turned 64 = .ok (.aload_n 3, 1) := by decide +kernel
theorem dX4_turned_65 : decode cX4_turned 65 = .ok (.iload 4, 2) := by decide +kernel
theorem dX4_turned_67 : decode cX4_turned 67 = .ok (.invokestatic 18, 3) := by decide +kernel
theorem dX4_turned_70 : decode cX4_turned 70 = .ok (.istore 6, 2) := by decide +kernel
theorem dX4_turned_72 : decode cX4_turned 72 = .ok (.iload 6, 2) := by decide +kernel
theorem dX4_turned_74 : decode cX4_turned 74 = .ok (.iload_n 2, 1) := by decide +kernel
theorem dX4_turned_75 : decode cX4_turned 75 = .ok (.if_icmp .ge 20, 3) := by decide +kernel
theorem dX4_turned_78 : decode cX4_turned 78 = .ok (.aload_n 3, 1) := by decide +kernel
theorem dX4_turned_79 : decode cX4_turned 79 = .ok (.iload 5, 2) := by decide +kernel
theorem dX4_turned_81 : decode cX4_turned 81 = .ok (.iload 6, 2) := by decide +kernel
theorem dX4_turned_83 : decode cX4_turned 83 = .ok (.iadd, 1) := by decide +kernel
theorem dX4_turned_84 : decode cX4_turned 84 = .ok (.iaload, 1) := by decide +kernel
theorem dX4_turned_85 : decode cX4_turned 85 = .ok (.aload_n 3, 1) := by decide +kernel
theorem dX4_turned_86 : decode cX4_turned 86 = .ok (.iload 4, 2) := by decide +kernel
theorem dX4_turned_88 : decode cX4_turned 88 = .ok (.iload 6, 2) := by decide +kernel
theorem dX4_turned_90 : decode cX4_turned 90 = .ok (.iadd, 1) := by decide +kernel
theorem dX4_turned_91 : decode cX4_turned 91 = .ok (.iaload, 1) := by decide +kernel
theorem dX4_turned_92 : decode cX4_turned 92 = .ok (.if_icmp .ge 7, 3) := by decide +kernel
theorem dX4_turned_95 : decode cX4_turned 95 = .ok (.iload 5, 2) := by decide +kernel
theorem dX4_turned_97 : decode cX4_turned 97 = .ok (.istore 4, 2) := by decide +kernel
theorem dX4_turned_99 : decode cX4_turned 99 = .ok (.iinc 5 (-1), 3) := by decide +kernel
theorem dX4_turned_102 : decode cX4_turned 102 = .ok (.goto (-46), 3) := by decide +kernel
theorem dX4_turned_105 : decode cX4_turned 105 = .ok (.iload 4, 2) := by decide +kernel
theorem dX4_turned_107 : decode cX4_turned 107 = .ok (.ireturn, 1) := by decide +kernel
set_option maxRecDepth 20000 in
theorem ggX4_isSame_X3_init : GoodIn wsX4_isSame wsX3_init := goodIn_r _ [11, 12, 13, 14, 5, 15, 16, 17, 18, 19, 20, 21, 22, 23, 24, 25, 26, 27, 28, 3, 29, 30, 31, 32, 33, 212, 213, 214, 215, 216, 217, 218, 219, 220, 221] (by decide +kernel) (by decide +kernel)
set_option maxRecDepth 20000 in
theorem gX4_isSame_X3_init : GoodIn wsX4_isSame (wsX3_init) := ggX4_isSame_X3_init
set_option maxRecDepth 20000 in
theorem ggX4_isSame_X3_seam : GoodIn wsX4_isSame wsX3_seam := goodIn_r _ [37, 23, 22, 18, 16, 5, 19, 212, 213, 214, 215, 216, 217, 218, 219, 220, 221] (by decide +kernel) (by decide +kernel)
set_option maxRecDepth 20000 in
theorem gX4_isSame_X3_seam : GoodIn wsX4_isSame (wsV RX4 37 RX3 yX3_seam wsX3_seam) := goodIn_app (goodIn_of _ (by decide +kernel)) ggX4_isSame_X3_seam
set_option maxRecDepth 20000 in
theorem ggX4_isSame_X2_count : GoodIn wsX4_isSame wsX2_count := goodIn_ca (goodIn_r _ [42, 43, 44, 45, 46, 47, 48, 49, 50, 51, 52, 53, 54, 55, 56, 57, 58, 59, 60, 61, 62, 63, 64, 65, 66, 67, 68, 69, 70, 71, 72, 73, 74, 75, 76, 77, 78, 79, 80, 81, 82, 83, 84, 41, 85, 86, 87, 88, 89, 90, 91, 92, 93, 94, 95, 96, 97, 98, 224, 225, 226, 227, 228, 229, 230] (by decide +kernel) (by decide +kernel)) (goodIn_sub (fun _ h => List.mem_cons_of_mem _ (List.mem_append_right _ h)) (by decide +kernel))
set_option maxRecDepth 20000 in
theorem gX4_isSame_X2_count : GoodIn wsX4_isSame (wsV RX4 44 RX2 yX2_count wsX2_count) := goodIn_app (goodIn_of _ (by decide +kernel)) ggX4_isSame_X2_count
set_option maxRecDepth 20000 in
theorem ggX4_isSame_X2_seam : GoodIn wsX4_isSame wsX2_seam := goodIn_ca (goodIn_r _ [102, 43, 44, 45, 46, 82, 83, 84, 41, 85, 86, 59, 60, 51, 61, 53, 62, 87, 88, 89, 90, 91, 92, 93, 70, 94, 72, 95, 96, 75, 97, 98, 68, 69, 71, 73, 74, 76, 77, 78, 79, 80, 81, 103, 104, 105, 106, 107, 108, 109, 110, 224, 225, 226, 227, 228, 229, 230] (by decide +kernel) (by decide +kernel)) (goodIn_sub (fun _ h => List.mem_cons_of_mem _ (List.mem_append_right _ h)) (by decide +kernel))
set_option maxRecDepth 20000 in
theorem gX4_isSame_X2_seam : GoodIn wsX4_isSame (wsV RX4 50 RX2 yX2_seam wsX2_seam) := goodIn_app (goodIn_of _ (by decide +kernel)) ggX4_isSame_X2_seam
set_option maxRecDepth 20000 in
theorem ggX4_isSame_X2_stitch : GoodIn wsX4_isSame wsX2_stitch := goodIn_ca (goodIn_r _ [114, 115, 116, 117, 41, 118, 43, 44, 45, 46, 119, 120, 121, 122, 78, 79, 70, 80, 72, 81, 227, 228, 224, 225, 226, 229, 230] (by decide +kernel) (by decide +kernel)) (goodIn_sub (fun _ h => List.mem_cons_of_mem _ (List.mem_append_right _ h)) (by decide +kernel))
set_option maxRecDepth 20000 in
theorem gX4_isSame_X2_stitch : GoodIn wsX4_isSame (wsV RX4 55 RX2 yX2_stitch wsX2_stitch) := goodIn_app (goodIn_of _ (by decide +kernel)) ggX4_isSame_X2_stitch
set_option maxRecDepth 20000 in
theorem ggX4_isSame_X2_end : GoodIn wsX4_isSame wsX2_end := goodIn_ca (goodIn_r _ [126, 115, 116, 117, 41, 118, 43, 44, 45, 46, 119, 120, 121, 86, 59, 60, 51, 61, 53, 62, 227, 228, 224, 225, 226, 229, 230] (by decide +kernel) (by decide +kernel)) (goodIn_sub (fun _ h => List.mem_cons_of_mem _ (List.mem_append_right _ h)) (by decide +kernel))
set_option maxRecDepth 20000 in
theorem gX4_isSame_X2_end : GoodIn wsX4_isSame (wsV RX4 59 RX2 yX2_end wsX2_end) := goodIn_app (goodIn_of _ (by decide +kernel)) ggX4_isSame_X2_end
set_option maxRecDepth 20000 in
theorem ggX4_isSame_X2_rank : GoodIn wsX4_isSame wsX2_rank := goodIn_ca (goodIn_r _ [130, 115, 116, 117, 41, 118, 43, 44, 45, 46, 119, 120, 121, 131, 132, 133, 51, 134, 53, 58, 59, 60, 61, 62, 227, 228, 224, 225, 226, 229, 230] (by decide +kernel) (by decide +kernel)) (goodIn_sub (fun _ h => List.mem_cons_of_mem _ (List.mem_append_right _ h)) (by decide +kernel))
set_option maxRecDepth 20000 in
theorem gX4_isSame_X2_rank : GoodIn wsX4_isSame (wsV RX4 62 RX2 yX2_rank wsX2_rank) := goodIn_app (goodIn_of _ (by decide +kernel)) ggX4_isSame_X2_rank
set_option maxRecDepth 20000 in
theorem ggX4_isSame_L_common : GoodIn wsX4_isSame wsL_common := goodIn_r _ [137] (by decide +kernel) (by decide +kernel)
set_option maxRecDepth 20000 in
theorem gX4_isSame_L_common_n18 : GoodIn wsX4_isSame (wsL_common) := ggX4_isSame_L_common
set_option maxRecDepth 20000 in
theorem ggX4_isSame_X3_repeat : GoodIn wsX4_isSame wsX3_repeat := goodIn_r _ [141, 23, 22, 18, 16, 5, 19, 212, 213, 214, 215, 216, 217, 218, 219, 220, 221] (by decide +kernel) (by decide +kernel)
set_option maxRecDepth 20000 in
theorem gX4_isSame_X3_repeat : GoodIn wsX4_isSame (wsV RX4 65 RX3 yX3_repeat wsX3_repeat) := goodIn_app (goodIn_of _ (by decide +kernel)) ggX4_isSame_X3_repeat
set_option maxRecDepth 20000 in
theorem ggX4_isSame_X2_repeat : GoodIn wsX4_isSame wsX2_repeat := goodIn_ca (goodIn_r _ [145, 43, 44, 115, 116, 117, 41, 118, 45, 46, 146, 147, 148, 51, 149, 53, 63, 64, 65, 66, 58, 59, 60, 61, 62, 67, 68, 69, 70, 71, 72, 73, 74, 75, 76, 77, 78, 79, 80, 81, 150, 86, 103, 104, 105, 106, 107, 108, 109, 110, 98, 151, 152, 153, 154, 227, 228, 224, 225, 226, 229, 230] (by decide +kernel) (by decide +kernel)) (goodIn_sub (fun _ h => List.mem_cons_of_mem _ (List.mem_append_right _ h)) (by decide +kernel))
set_option maxRecDepth 20000 in
theorem gX4_isSame_X2_repeat : GoodIn wsX4_isSame (wsV RX4 69 RX2 yX2_repeat wsX2_repeat) := goodIn_app (goodIn_of _ (by decide +kernel)) ggX4_isSame_X2_repeat
set_option maxRecDepth 20000 in
theorem ggX4_isSame_X4_placesOfSample : GoodIn wsX4_isSame wsX4_placesOfSample := goodIn_r _ [159, 5, 4, 6, 135, 136, 137, 222, 223] (by decide +kernel) (by decide +kernel)
set_option maxRecDepth 20000 in
theorem gX4_isSame_X4_placesOfSample : GoodIn wsX4_isSame (wsV RX4 71 RX4 yX4_placesOfSample wsX4_placesOfSample) := goodIn_app (goodIn_of _ (by decide +kernel)) ggX4_isSame_X4_placesOfSample
set_option maxRecDepth 20000 in
theorem ggX4_isSame_X2_found : GoodIn wsX4_isSame wsX2_found := goodIn_ca (goodIn_r _ [163, 47, 115, 116, 117, 41, 118, 43, 44, 45, 46, 151, 152, 153, 70, 154, 72, 107, 108, 109, 110, 98, 68, 69, 71, 73, 74, 75, 76, 77, 78, 79, 80, 81, 227, 228, 224, 225, 226, 229, 230] (by decide +kernel) (by decide +kernel)) (goodIn_sub (fun _ h => List.mem_cons_of_mem _ (List.mem_append_right _ h)) (by decide +kernel))
set_option maxRecDepth 20000 in
theorem gX4_isSame_X2_found : GoodIn wsX4_isSame (wsV RX4 74 RX2 yX2_found wsX2_found) := goodIn_app (goodIn_of _ (by decide +kernel)) ggX4_isSame_X2_found
set_option maxRecDepth 20000 in
theorem ggX4_isSame_X2_first : GoodIn wsX4_isSame wsX2_first := goodIn_ca (goodIn_r _ [167, 47, 115, 116, 117, 41, 118, 43, 44, 45, 46, 103, 104, 105, 70, 106, 72, 107, 108, 109, 110, 98, 68, 69, 71, 73, 74, 75, 76, 77, 78, 79, 80, 81, 227, 228, 224, 225, 226, 229, 230] (by decide +kernel) (by decide +kernel)) (goodIn_sub (fun _ h => List.mem_cons_of_mem _ (List.mem_append_right _ h)) (by decide +kernel))
set_option maxRecDepth 20000 in
theorem gX4_isSame_X2_first : GoodIn wsX4_isSame (wsV RX4 77 RX2 yX2_first wsX2_first) := goodIn_app (goodIn_of _ (by decide +kernel)) ggX4_isSame_X2_first
set_option maxRecDepth 20000 in
theorem ggX4_isSame_X2_period : GoodIn wsX4_isSame wsX2_period := goodIn_ca (goodIn_r _ [171, 115, 116, 117, 41, 118, 43, 44, 45, 46, 172, 173, 174, 70, 175, 72, 98, 68, 69, 71, 73, 74, 75, 76, 77, 78, 79, 80, 81, 227, 228, 224, 225, 226, 229, 230] (by decide +kernel) (by decide +kernel)) (goodIn_sub (fun _ h => List.mem_cons_of_mem _ (List.mem_append_right _ h)) (by decide +kernel))
set_option maxRecDepth 20000 in
theorem gX4_isSame_X2_period : GoodIn wsX4_isSame (wsV RX4 80 RX2 yX2_period wsX2_period) := goodIn_app (goodIn_of _ (by decide +kernel)) ggX4_isSame_X2_period
set_option maxRecDepth 20000 in
theorem ggX4_isSame_X4_period : GoodIn wsX4_isSame wsX4_period := goodIn_r _ [179, 4, 135, 136, 137, 222, 223] (by decide +kernel) (by decide +kernel)
set_option maxRecDepth 20000 in
theorem gX4_isSame_X4_period : GoodIn wsX4_isSame (wsV RX4 83 RX4 yX4_period wsX4_period) := goodIn_app (goodIn_of _ (by decide +kernel)) ggX4_isSame_X4_period
set_option maxRecDepth 20000 in
theorem ggX4_isSame_X2_turned : GoodIn wsX4_isSame wsX2_turned := goodIn_ca (goodIn_r _ [183, 115, 116, 117, 41, 118, 43, 44, 45, 46, 184, 185, 186, 70, 187, 72, 188, 189, 190, 191, 192, 193, 194, 195, 77, 78, 79, 80, 81, 227, 228, 224, 225, 226, 229, 230] (by decide +kernel) (by decide +kernel)) (goodIn_sub (fun _ h => List.mem_cons_of_mem _ (List.mem_append_right _ h)) (by decide +kernel))
set_option maxRecDepth 20000 in
theorem gX4_isSame_X2_turned : GoodIn wsX4_isSame (wsV RX4 84 RX2 yX2_turned wsX2_turned) := goodIn_app (goodIn_of _ (by decide +kernel)) ggX4_isSame_X2_turned
set_option maxRecDepth 20000 in
theorem ggX4_isSame_X4_turned : GoodIn wsX4_isSame wsX4_turned := goodIn_r _ [199, 4, 5, 135, 136, 137, 222, 223] (by decide +kernel) (by decide +kernel)
set_option maxRecDepth 20000 in
theorem gX4_isSame_X4_turned : GoodIn wsX4_isSame (wsV RX4 87 RX4 yX4_turned wsX4_turned) := goodIn_app (goodIn_of _ (by decide +kernel)) ggX4_isSame_X4_turned
set_option maxRecDepth 20000 in
theorem ggX4_isSame_X2_mean : GoodIn wsX4_isSame wsX2_mean := goodIn_r _ [203, 45, 46, 204, 205, 206, 51, 207, 53, 208, 209, 210, 211, 63, 64, 65, 66, 58, 59, 60, 61, 62, 67, 68, 69, 70, 71, 72, 73, 74, 75, 76, 77, 78, 79, 80, 81, 224, 225, 226, 227, 228, 229, 230] (by decide +kernel) (by decide +kernel)
set_option maxRecDepth 20000 in
theorem gX4_isSame_X2_mean : GoodIn wsX4_isSame (wsV RX4 88 RX2 yX2_mean wsX2_mean) := goodIn_app (goodIn_of _ (by decide +kernel)) ggX4_isSame_X2_mean
theorem dX4_isSame_0 : decode cX4_isSame 0 = .ok (.new 24, 3) := by decide +kernel
theorem dX4_isSame_3 : decode cX4_isSame 3 = .ok (.dup, 1) := by decide +kernel
theorem dX4_isSame_4 : decode cX4_isSame 4 = .ok (.aload_n 0, 1) := by decide +kernel
theorem dX4_isSame_5 : decode cX4_isSame 5 = .ok (.getfield 9, 3) := by decide +kernel
theorem dX4_isSame_8 : decode cX4_isSame 8 = .ok (.iconst 0, 1) := by decide +kernel
theorem dX4_isSame_9 : decode cX4_isSame 9 = .ok (.aaload, 1) := by decide +kernel
theorem dX4_isSame_10 : decode cX4_isSame 10 = .ok (.aload_n 0, 1) := by decide +kernel
theorem dX4_isSame_11 : decode cX4_isSame 11 = .ok (.getfield 9, 3) := by decide +kernel
theorem dX4_isSame_14 : decode cX4_isSame 14 = .ok (.iconst 1, 1) := by decide +kernel
theorem dX4_isSame_15 : decode cX4_isSame 15 = .ok (.aaload, 1) := by decide +kernel
theorem dX4_isSame_16 : decode cX4_isSame 16 = .ok (.invokespecial 30, 3) := by decide +kernel
theorem dX4_isSame_19 : decode cX4_isSame 19 = .ok (.astore_n 2, 1) := by decide +kernel
theorem dX4_isSame_20 : decode cX4_isSame 20 = .ok (.aload_n 2, 1) := by decide +kernel
theorem dX4_isSame_21 : decode cX4_isSame 21 = .ok (.invokevirtual 37, 3) := by decide +kernel
theorem dX4_isSame_24 : decode cX4_isSame 24 = .ok (.astore_n 3, 1) := by decide +kernel
theorem dX4_isSame_25 : decode cX4_isSame 25 = .ok (.bipush 6, 2) := by decide +kernel
theorem dX4_isSame_27 : decode cX4_isSame 27 = .ok (.newarray .int, 2) := by decide +kernel
theorem dX4_isSame_29 : decode cX4_isSame 29 = .ok (.dup, 1) := by decide +kernel
theorem dX4_isSame_30 : decode cX4_isSame 30 = .ok (.iconst 0, 1) := by decide +kernel
theorem dX4_isSame_31 : decode cX4_isSame 31 = .ok (.aload_n 0, 1) := by decide +kernel
theorem dX4_isSame_32 : decode cX4_isSame 32 = .ok (.getfield 9, 3) := by decide +kernel
theorem dX4_isSame_35 : decode cX4_isSame 35 = .ok (.iconst 0, 1) := by decide +kernel
theorem dX4_isSame_36 : decode cX4_isSame 36 = .ok (.aaload, 1) := by decide +kernel
theorem dX4_isSame_37 : decode cX4_isSame 37 = .ok (.arraylength, 1) := by decide +kernel
theorem dX4_isSame_38 : decode cX4_isSame 38 = .ok (.iastore, 1) := by decide +kernel
theorem dX4_isSame_39 : decode cX4_isSame 39 = .ok (.dup, 1) := by decide +kernel
theorem dX4_isSame_40 : decode cX4_isSame 40 = .ok (.iconst 1, 1) := by decide +kernel
theorem dX4_isSame_41 : decode cX4_isSame 41 = .ok (.aload_n 0, 1) := by decide +kernel
theorem dX4_isSame_42 : decode cX4_isSame 42 = .ok (.getfield 9, 3) := by decide +kernel
theorem dX4_isSame_45 : decode cX4_isSame 45 = .ok (.iconst 1, 1) := by decide +kernel
theorem dX4_isSame_46 : decode cX4_isSame 46 = .ok (.aaload, 1) := by decide +kernel
theorem dX4_isSame_47 : decode cX4_isSame 47 = .ok (.arraylength, 1) := by decide +kernel
theorem dX4_isSame_48 : decode cX4_isSame 48 = .ok (.iastore, 1) := by decide +kernel
theorem dX4_isSame_49 : decode cX4_isSame 49 = .ok (.dup, 1) := by decide +kernel
theorem dX4_isSame_50 : decode cX4_isSame 50 = .ok (.iconst 2, 1) := by decide +kernel
theorem dX4_isSame_51 : decode cX4_isSame 51 = .ok (.aload_n 0, 1) := by decide +kernel
theorem dX4_isSame_52 : decode cX4_isSame 52 = .ok (.getfield 15, 3) := by decide +kernel
theorem dX4_isSame_55 : decode cX4_isSame 55 = .ok (.arraylength, 1) := by decide +kernel
theorem dX4_isSame_56 : decode cX4_isSame 56 = .ok (.iastore, 1) := by decide +kernel
theorem dX4_isSame_57 : decode cX4_isSame 57 = .ok (.dup, 1) := by decide +kernel
theorem dX4_isSame_58 : decode cX4_isSame 58 = .ok (.iconst 3, 1) := by decide +kernel
theorem dX4_isSame_59 : decode cX4_isSame 59 = .ok (.aload_n 2, 1) := by decide +kernel
theorem dX4_isSame_60 : decode cX4_isSame 60 = .ok (.getfield 41, 3) := by decide +kernel
theorem dX4_isSame_63 : decode cX4_isSame 63 = .ok (.iconst 0, 1) := by decide +kernel
theorem dX4_isSame_64 : decode cX4_isSame 64 = .ok (.iaload, 1) := by decide +kernel
theorem dX4_isSame_65 : decode cX4_isSame 65 = .ok (.iastore, 1) := by decide +kernel
theorem dX4_isSame_66 : decode cX4_isSame 66 = .ok (.dup, 1) := by decide +kernel
theorem dX4_isSame_67 : decode cX4_isSame 67 = .ok (.iconst 4, 1) := by decide +kernel
theorem dX4_isSame_68 : decode cX4_isSame 68 = .ok (.aload_n 2, 1) := by decide +kernel
theorem dX4_isSame_69 : decode cX4_isSame 69 = .ok (.getfield 41, 3) := by decide +kernel
theorem dX4_isSame_72 : decode cX4_isSame 72 = .ok (.iconst 1, 1) := by decide +kernel
theorem dX4_isSame_73 : decode cX4_isSame 73 = .ok (.iaload, 1) := by decide +kernel
theorem dX4_isSame_74 : decode cX4_isSame 74 = .ok (.iastore, 1) := by decide +kernel
theorem dX4_isSame_75 : decode cX4_isSame 75 = .ok (.dup, 1) := by decide +kernel
theorem dX4_isSame_76 : decode cX4_isSame 76 = .ok (.iconst 5, 1) := by decide +kernel
theorem dX4_isSame_77 : decode cX4_isSame 77 = .ok (.aload_n 3, 1) := by decide +kernel
theorem dX4_isSame_78 : decode cX4_isSame 78 = .ok (.iconst 0, 1) := by decide +kernel
theorem dX4_isSame_79 : decode cX4_isSame 79 = .ok (.iaload, 1) := by decide +kernel
theorem dX4_isSame_80 : decode cX4_isSame 80 = .ok (.iastore, 1) := by decide +kernel
theorem dX4_isSame_81 : decode cX4_isSame 81 = .ok (.astore 4, 2) := by decide +kernel
theorem dX4_isSame_83 : decode cX4_isSame 83 = .ok (.iconst 0, 1) := by decide +kernel
theorem dX4_isSame_84 : decode cX4_isSame 84 = .ok (.istore 5, 2) := by decide +kernel
theorem dX4_isSame_86 : decode cX4_isSame 86 = .ok (.iload 5, 2) := by decide +kernel
theorem dX4_isSame_88 : decode cX4_isSame 88 = .ok (.bipush 6, 2) := by decide +kernel
theorem dX4_isSame_90 : decode cX4_isSame 90 = .ok (.if_icmp .ge 25, 3) := by decide +kernel
theorem dX4_isSame_93 : decode cX4_isSame 93 = .ok (.aload_n 1, 1) := by decide +kernel
theorem dX4_isSame_94 : decode cX4_isSame 94 = .ok (.iload 5, 2) := by decide +kernel
theorem dX4_isSame_96 : decode cX4_isSame 96 = .ok (.invokevirtual 44, 3) := by decide +kernel
theorem dX4_isSame_99 : decode cX4_isSame 99 = .ok (.aload 4, 2) := by decide +kernel
theorem dX4_isSame_101 : decode cX4_isSame 101 = .ok (.iload 5, 2) := by decide +kernel
theorem dX4_isSame_103 : decode cX4_isSame 103 = .ok (.iaload, 1) := by decide +kernel
theorem dX4_isSame_104 : decode cX4_isSame 104 = .ok (.if_icmp .eq 5, 3) := by decide +kernel
theorem dX4_isSame_107 : decode cX4_isSame 107 = .ok (.iconst 0, 1) := by decide +kernel
theorem dX4_isSame_108 : decode cX4_isSame 108 = .ok (.ireturn, 1) := by decide +kernel
theorem dX4_isSame_109 : decode cX4_isSame 109 = .ok (.iinc 5 1, 3) := by decide +kernel
theorem dX4_isSame_112 : decode cX4_isSame 112 = .ok (.goto (-26), 3) := by decide +kernel
theorem dX4_isSame_115 : decode cX4_isSame 115 = .ok (.iconst 0, 1) := by decide +kernel
theorem dX4_isSame_116 : decode cX4_isSame 116 = .ok (.istore 5, 2) := by decide +kernel
theorem dX4_isSame_118 : decode cX4_isSame 118 = .ok (.iload 5, 2) := by decide +kernel
theorem dX4_isSame_120 : decode cX4_isSame 120 = .ok (.iconst 3, 1) := by decide +kernel
theorem dX4_isSame_121 : decode cX4_isSame 121 = .ok (.if_icmp .ge 24, 3) := by decide +kernel
theorem dX4_isSame_124 : decode cX4_isSame 124 = .ok (.aload_n 1, 1) := by decide +kernel
theorem dX4_isSame_125 : decode cX4_isSame 125 = .ok (.iload 5, 2) := by decide +kernel
theorem dX4_isSame_127 : decode cX4_isSame 127 = .ok (.invokevirtual 50, 3) := by decide +kernel
theorem dX4_isSame_130 : decode cX4_isSame 130 = .ok (.aload_n 3, 1) := by decide +kernel
theorem dX4_isSame_131 : decode cX4_isSame 131 = .ok (.iload 5, 2) := by decide +kernel
theorem dX4_isSame_133 : decode cX4_isSame 133 = .ok (.iaload, 1) := by decide +kernel
theorem dX4_isSame_134 : decode cX4_isSame 134 = .ok (.if_icmp .eq 5, 3) := by decide +kernel
theorem dX4_isSame_137 : decode cX4_isSame 137 = .ok (.iconst 0, 1) := by decide +kernel
theorem dX4_isSame_138 : decode cX4_isSame 138 = .ok (.ireturn, 1) := by decide +kernel
theorem dX4_isSame_139 : decode cX4_isSame 139 = .ok (.iinc 5 1, 3) := by decide +kernel
theorem dX4_isSame_142 : decode cX4_isSame 142 = .ok (.goto (-24), 3) := by decide +kernel
theorem dX4_isSame_145 : decode cX4_isSame 145 = .ok (.iconst 0, 1) := by decide +kernel
theorem dX4_isSame_146 : decode cX4_isSame 146 = .ok (.istore 5, 2) := by decide +kernel
theorem dX4_isSame_148 : decode cX4_isSame 148 = .ok (.iconst 0, 1) := by decide +kernel
theorem dX4_isSame_149 : decode cX4_isSame 149 = .ok (.istore 6, 2) := by decide +kernel
theorem dX4_isSame_151 : decode cX4_isSame 151 = .ok (.iconst 0, 1) := by decide +kernel
theorem dX4_isSame_152 : decode cX4_isSame 152 = .ok (.istore 7, 2) := by decide +kernel
theorem dX4_isSame_154 : decode cX4_isSame 154 = .ok (.iload 7, 2) := by decide +kernel
theorem dX4_isSame_156 : decode cX4_isSame 156 = .ok (.iconst 2, 1) := by decide +kernel
theorem dX4_isSame_157 : decode cX4_isSame 157 = .ok (.if_icmp .ge 235, 3) := by decide +kernel
theorem dX4_isSame_160 : decode cX4_isSame 160 = .ok (.aload_n 0, 1) := by decide +kernel
theorem dX4_isSame_161 : decode cX4_isSame 161 = .ok (.getfield 9, 3) := by decide +kernel
theorem dX4_isSame_164 : decode cX4_isSame 164 = .ok (.iload 7, 2) := by decide +kernel
theorem dX4_isSame_166 : decode cX4_isSame 166 = .ok (.aaload, 1) := by decide +kernel
theorem dX4_isSame_167 : decode cX4_isSame 167 = .ok (.astore 8, 2) := by decide +kernel
theorem dX4_isSame_169 : decode cX4_isSame 169 = .ok (.iconst 0, 1) := by decide +kernel
theorem dX4_isSame_170 : decode cX4_isSame 170 = .ok (.istore 9, 2) := by decide +kernel
theorem dX4_isSame_172 : decode cX4_isSame 172 = .ok (.iload 9, 2) := by decide +kernel
theorem dX4_isSame_174 : decode cX4_isSame 174 = .ok (.aload 8, 2) := by decide +kernel
theorem dX4_isSame_176 : decode cX4_isSame 176 = .ok (.arraylength, 1) := by decide +kernel
theorem dX4_isSame_177 : decode cX4_isSame 177 = .ok (.if_icmp .ge 102, 3) := by decide +kernel
theorem dX4_isSame_180 : decode cX4_isSame 180 = .ok (.aload_n 2, 1) := by decide +kernel
theorem dX4_isSame_181 : decode cX4_isSame 181 = .ok (.getfield 52, 3) := by decide +kernel
theorem dX4_isSame_184 : decode cX4_isSame 184 = .ok (.iload 7, 2) := by decide +kernel
theorem dX4_isSame_186 : decode cX4_isSame 186 = .ok (.aaload, 1) := by decide +kernel
theorem dX4_isSame_187 : decode cX4_isSame 187 = .ok (.iload 9, 2) := by decide +kernel
theorem dX4_isSame_189 : decode cX4_isSame 189 = .ok (.iaload, 1) := by decide +kernel
theorem dX4_isSame_190 : decode cX4_isSame 190 = .ok (.istore 10, 2) := by decide +kernel
theorem dX4_isSame_192 : decode cX4_isSame 192 = .ok (.aload_n 1, 1) := by decide +kernel
theorem dX4_isSame_193 : decode cX4_isSame 193 = .ok (.iload 7, 2) := by decide +kernel
theorem dX4_isSame_195 : decode cX4_isSame 195 = .ok (.iload 9, 2) := by decide +kernel
theorem dX4_isSame_197 : decode cX4_isSame 197 = .ok (.invokevirtual 55, 3) := by decide +kernel
theorem dX4_isSame_200 : decode cX4_isSame 200 = .ok (.aload 8, 2) := by decide +kernel
theorem dX4_isSame_202 : decode cX4_isSame 202 = .ok (.iload 9, 2) := by decide +kernel
theorem dX4_isSame_204 : decode cX4_isSame 204 = .ok (.iaload, 1) := by decide +kernel
theorem dX4_isSame_205 : decode cX4_isSame 205 = .ok (.if_icmp .ne 29, 3) := by decide +kernel
theorem dX4_isSame_208 : decode cX4_isSame 208 = .ok (.aload_n 1, 1) := by decide +kernel
theorem dX4_isSame_209 : decode cX4_isSame 209 = .ok (.iload 7, 2) := by decide +kernel
theorem dX4_isSame_211 : decode cX4_isSame 211 = .ok (.iload 9, 2) := by decide +kernel
theorem dX4_isSame_213 : decode cX4_isSame 213 = .ok (.invokevirtual 59, 3) := by decide +kernel
theorem dX4_isSame_216 : decode cX4_isSame 216 = .ok (.iload 10, 2) := by decide +kernel
theorem dX4_isSame_218 : decode cX4_isSame 218 = .ok (.if_icmp .ne 16, 3) := by decide +kernel
theorem dX4_isSame_221 : decode cX4_isSame 221 = .ok (.aload_n 1, 1) := by decide +kernel
theorem dX4_isSame_222 : decode cX4_isSame 222 = .ok (.iload 7, 2) := by decide +kernel
theorem dX4_isSame_224 : decode cX4_isSame 224 = .ok (.iload 10, 2) := by decide +kernel
theorem dX4_isSame_226 : decode cX4_isSame 226 = .ok (.invokevirtual 62, 3) := by decide +kernel
theorem dX4_isSame_229 : decode cX4_isSame 229 = .ok (.iload 9, 2) := by decide +kernel
theorem dX4_isSame_231 : decode cX4_isSame 231 = .ok (.if_icmp .eq 5, 3) := by decide +kernel
theorem dX4_isSame_234 : decode cX4_isSame 234 = .ok (.iconst 0, 1) := by decide +kernel
theorem dX4_isSame_235 : decode cX4_isSame 235 = .ok (.ireturn, 1) := by decide +kernel
theorem dX4_isSame_236 : decode cX4_isSame 236 = .ok (.iload 9, 2) := by decide +kernel
theorem dX4_isSame_238 : decode cX4_isSame 238 = .ok (.ifCond .ne 6, 3) := by decide +kernel
theorem dX4_isSame_241 : decode cX4_isSame 241 = .ok (.goto 32, 3) := by decide +kernel
theorem dX4_isSame_244 : decode cX4_isSame 244 = .ok (.iload 5, 2) := by decide +kernel
theorem dX4_isSame_246 : decode cX4_isSame 246 = .ok (.aload 8, 2) := by decide +kernel
theorem dX4_isSame_248 : decode cX4_isSame 248 = .ok (.aload_n 2, 1) := by decide +kernel
theorem dX4_isSame_249 : decode cX4_isSame 249 = .ok (.getfield 52, 3) := by decide +kernel
theorem dX4_isSame_252 : decode cX4_isSame 252 = .ok (.iload 7, 2) := by decide +kernel
theorem dX4_isSame_254 : decode cX4_isSame 254 = .ok (.aaload, 1) := by decide +kernel
theorem dX4_isSame_255 : decode cX4_isSame 255 = .ok (.iload 9, 2) := by decide +kernel
theorem dX4_isSame_257 : decode cX4_isSame 257 = .ok (.iconst 1, 1) := by decide +kernel
theorem dX4_isSame_258 : decode cX4_isSame 258 = .ok (.isub, 1) := by decide +kernel
theorem dX4_isSame_259 : decode cX4_isSame 259 = .ok (.iaload, 1) := by decide +kernel
theorem dX4_isSame_260 : decode cX4_isSame 260 = .ok (.aload 8, 2) := by decide +kernel
theorem dX4_isSame_262 : decode cX4_isSame 262 = .ok (.iload 10, 2) := by decide +kernel
theorem dX4_isSame_264 : decode cX4_isSame 264 = .ok (.invokestatic 18, 3) := by decide +kernel
theorem dX4_isSame_267 : decode cX4_isSame 267 = .ok (.iadd, 1) := by decide +kernel
theorem dX4_isSame_268 : decode cX4_isSame 268 = .ok (.istore 5, 2) := by decide +kernel
theorem dX4_isSame_270 : decode cX4_isSame 270 = .ok (.iinc 6 1, 3) := by decide +kernel
theorem dX4_isSame_273 : decode cX4_isSame 273 = .ok (.iinc 9 1, 3) := by decide +kernel
theorem dX4_isSame_276 : decode cX4_isSame 276 = .ok (.goto (-104), 3) := by decide +kernel
theorem dX4_isSame_279 : decode cX4_isSame 279 = .ok (.aload_n 2, 1) := by decide +kernel
theorem dX4_isSame_280 : decode cX4_isSame 280 = .ok (.iload 7, 2) := by decide +kernel
theorem dX4_isSame_282 : decode cX4_isSame 282 = .ok (.invokevirtual 65, 3) := by decide +kernel
theorem dX4_isSame_285 : decode cX4_isSame 285 = .ok (.astore 9, 2) := by decide +kernel
theorem dX4_isSame_287 : decode cX4_isSame 287 = .ok (.iconst 0, 1) := by decide +kernel
theorem dX4_isSame_288 : decode cX4_isSame 288 = .ok (.istore 10, 2) := by decide +kernel
theorem dX4_isSame_290 : decode cX4_isSame 290 = .ok (.iload 10, 2) := by decide +kernel
theorem dX4_isSame_292 : decode cX4_isSame 292 = .ok (.iconst 3, 1) := by decide +kernel
theorem dX4_isSame_293 : decode cX4_isSame 293 = .ok (.if_icmp .ge 27, 3) := by decide +kernel
theorem dX4_isSame_296 : decode cX4_isSame 296 = .ok (.aload_n 1, 1) := by decide +kernel
theorem dX4_isSame_297 : decode cX4_isSame 297 = .ok (.iload 7, 2) := by decide +kernel
theorem dX4_isSame_299 : decode cX4_isSame 299 = .ok (.iload 10, 2) := by decide +kernel
theorem dX4_isSame_301 : decode cX4_isSame 301 = .ok (.invokevirtual 69, 3) := by decide +kernel
theorem dX4_isSame_304 : decode cX4_isSame 304 = .ok (.aload 9, 2) := by decide +kernel
theorem dX4_isSame_306 : decode cX4_isSame 306 = .ok (.iload 10, 2) := by decide +kernel
theorem dX4_isSame_308 : decode cX4_isSame 308 = .ok (.iaload, 1) := by decide +kernel
theorem dX4_isSame_309 : decode cX4_isSame 309 = .ok (.if_icmp .eq 5, 3) := by decide +kernel
theorem dX4_isSame_312 : decode cX4_isSame 312 = .ok (.iconst 0, 1) := by decide +kernel
theorem dX4_isSame_313 : decode cX4_isSame 313 = .ok (.ireturn, 1) := by decide +kernel
theorem dX4_isSame_314 : decode cX4_isSame 314 = .ok (.iinc 10 1, 3) := by decide +kernel
theorem dX4_isSame_317 : decode cX4_isSame 317 = .ok (.goto (-27), 3) := by decide +kernel
theorem dX4_isSame_320 : decode cX4_isSame 320 = .ok (.aload_n 0, 1) := by decide +kernel
theorem dX4_isSame_321 : decode cX4_isSame 321 = .ok (.iload 7, 2) := by decide +kernel
theorem dX4_isSame_323 : decode cX4_isSame 323 = .ok (.invokevirtual 71, 3) := by decide +kernel
theorem dX4_isSame_326 : decode cX4_isSame 326 = .ok (.astore 10, 2) := by decide +kernel
theorem dX4_isSame_328 : decode cX4_isSame 328 = .ok (.aload_n 1, 1) := by decide +kernel
theorem dX4_isSame_329 : decode cX4_isSame 329 = .ok (.iload 7, 2) := by decide +kernel
theorem dX4_isSame_331 : decode cX4_isSame 331 = .ok (.invokevirtual 74, 3) := by decide +kernel
theorem dX4_isSame_334 : decode cX4_isSame 334 = .ok (.aload 10, 2) := by decide +kernel
theorem dX4_isSame_336 : decode cX4_isSame 336 = .ok (.iconst 0, 1) := by decide +kernel
theorem dX4_isSame_337 : decode cX4_isSame 337 = .ok (.iaload, 1) := by decide +kernel
theorem dX4_isSame_338 : decode cX4_isSame 338 = .ok (.if_icmp .ne 46, 3) := by decide +kernel
theorem dX4_isSame_341 : decode cX4_isSame 341 = .ok (.aload_n 1, 1) := by decide +kernel
theorem dX4_isSame_342 : decode cX4_isSame 342 = .ok (.iload 7, 2) := by decide +kernel
theorem dX4_isSame_344 : decode cX4_isSame 344 = .ok (.invokevirtual 77, 3) := by decide +kernel
theorem dX4_isSame_347 : decode cX4_isSame 347 = .ok (.aload 10, 2) := by decide +kernel
theorem dX4_isSame_349 : decode cX4_isSame 349 = .ok (.iconst 1, 1) := by decide +kernel
theorem dX4_isSame_350 : decode cX4_isSame 350 = .ok (.iaload, 1) := by decide +kernel
theorem dX4_isSame_351 : decode cX4_isSame 351 = .ok (.if_icmp .ne 33, 3) := by decide +kernel
theorem dX4_isSame_354 : decode cX4_isSame 354 = .ok (.aload_n 1, 1) := by decide +kernel
theorem dX4_isSame_355 : decode cX4_isSame 355 = .ok (.iload 7, 2) := by decide +kernel
theorem dX4_isSame_357 : decode cX4_isSame 357 = .ok (.invokevirtual 80, 3) := by decide +kernel
theorem dX4_isSame_360 : decode cX4_isSame 360 = .ok (.aload_n 0, 1) := by decide +kernel
theorem dX4_isSame_361 : decode cX4_isSame 361 = .ok (.iload 7, 2) := by decide +kernel
theorem dX4_isSame_363 : decode cX4_isSame 363 = .ok (.invokevirtual 83, 3) := by decide +kernel
theorem dX4_isSame_366 : decode cX4_isSame 366 = .ok (.if_icmp .ne 18, 3) := by decide +kernel
theorem dX4_isSame_369 : decode cX4_isSame 369 = .ok (.aload_n 1, 1) := by decide +kernel
theorem dX4_isSame_370 : decode cX4_isSame 370 = .ok (.iload 7, 2) := by decide +kernel
theorem dX4_isSame_372 : decode cX4_isSame 372 = .ok (.invokevirtual 84, 3) := by decide +kernel
theorem dX4_isSame_375 : decode cX4_isSame 375 = .ok (.aload_n 0, 1) := by decide +kernel
theorem dX4_isSame_376 : decode cX4_isSame 376 = .ok (.iload 7, 2) := by decide +kernel
theorem dX4_isSame_378 : decode cX4_isSame 378 = .ok (.invokevirtual 87, 3) := by decide +kernel
theorem dX4_isSame_381 : decode cX4_isSame 381 = .ok (.if_icmp .eq 5, 3) := by decide +kernel
theorem dX4_isSame_384 : decode cX4_isSame 384 = .ok (.iconst 0, 1) := by decide +kernel
theorem dX4_isSame_385 : decode cX4_isSame 385 = .ok (.ireturn, 1) := by decide +kernel
theorem dX4_isSame_386 : decode cX4_isSame 386 = .ok (.iinc 7 1, 3) := by decide +kernel
theorem dX4_isSame_389 : decode cX4_isSame 389 = .ok (.goto (-235), 3) := by decide +kernel
theorem dX4_isSame_392 : decode cX4_isSame 392 = .ok (.aload_n 1, 1) := by decide +kernel
theorem dX4_isSame_393 : decode cX4_isSame 393 = .ok (.invokevirtual 88, 3) := by decide +kernel
theorem dX4_isSame_396 : decode cX4_isSame 396 = .ok (.iload 6, 2) := by decide +kernel
theorem dX4_isSame_398 : decode cX4_isSame 398 = .ok (.ifCond .ne 7, 3) := by decide +kernel
theorem dX4_isSame_401 : decode cX4_isSame 401 = .ok (.dconst 0, 1) := by decide +kernel
theorem dX4_isSame_402 : decode cX4_isSame 402 = .ok (.goto 10, 3) := by decide +kernel
theorem dX4_isSame_405 : decode cX4_isSame 405 = .ok (.iload 5, 2) := by decide +kernel
theorem dX4_isSame_407 : decode cX4_isSame 407 = .ok (.i2d, 1) := by decide +kernel
theorem dX4_isSame_408 : decode cX4_isSame 408 = .ok (.iload 6, 2) := by decide +kernel
theorem dX4_isSame_410 : decode cX4_isSame 410 = .ok (.i2d, 1) := by decide +kernel
theorem dX4_isSame_411 : decode cX4_isSame 411 = .ok (.ddiv, 1) := by decide +kernel
theorem dX4_isSame_412 : decode cX4_isSame 412 = .ok (.dcmp .l, 1) := by decide +kernel
theorem dX4_isSame_413 : decode cX4_isSame 413 = .ok (.ifCond .ne 7, 3) := by decide +kernel
theorem dX4_isSame_416 : decode cX4_isSame 416 = .ok (.iconst 1, 1) := by decide +kernel
theorem dX4_isSame_417 : decode cX4_isSame 417 = .ok (.goto 4, 3) := by decide +kernel
theorem dX4_isSame_420 : decode cX4_isSame 420 = .ok (.iconst 0, 1) := by decide +kernel
theorem dX4_isSame_421 : decode cX4_isSame 421 = .ok (.ireturn, 1) := by decide +kernel
