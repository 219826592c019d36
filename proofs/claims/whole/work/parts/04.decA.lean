theorem dX0_init_0 : decode cX0_init 0 = .ok (.aload_n 0, 1) := by decide +kernel
theorem dX0_init_1 : decode cX0_init 1 = .ok (.invokespecial 3, 3) := by decide +kernel
theorem dX0_init_4 : decode cX0_init 4 = .ok (.aload_n 0, 1) := by decide +kernel
theorem dX0_init_5 : decode cX0_init 5 = .ok (.bipush 64, 2) := by decide +kernel
theorem dX0_init_7 : decode cX0_init 7 = .ok (.newarray .int, 2) := by decide +kernel
theorem dX0_init_9 : decode cX0_init 9 = .ok (.putfield 9, 3) := by decide +kernel
theorem dX0_init_12 : decode cX0_init 12 = .ok (.aload_n 0, 1) := by decide +kernel
theorem dX0_init_13 : decode cX0_init 13 = .ok (.bipush 64, 2) := by decide +kernel
theorem dX0_init_15 : decode cX0_init 15 = .ok (.newarray .int, 2) := by decide +kernel
theorem dX0_init_17 : decode cX0_init 17 = .ok (.putfield 15, 3) := by decide +kernel
theorem dX0_init_20 : decode cX0_init 20 = .ok (.aload_n 0, 1) := by decide +kernel
theorem dX0_init_21 : decode cX0_init 21 = .ok (.bipush 64, 2) := by decide +kernel
theorem dX0_init_23 : decode cX0_init 23 = .ok (.newarray .int, 2) := by decide +kernel
theorem dX0_init_25 : decode cX0_init 25 = .ok (.putfield 18, 3) := by decide +kernel
theorem dX0_init_28 : decode cX0_init 28 = .ok (.aload_n 0, 1) := by decide +kernel
theorem dX0_init_29 : decode cX0_init 29 = .ok (.bipush 64, 2) := by decide +kernel
theorem dX0_init_31 : decode cX0_init 31 = .ok (.newarray .int, 2) := by decide +kernel
theorem dX0_init_33 : decode cX0_init 33 = .ok (.putfield 21, 3) := by decide +kernel
theorem dX0_init_36 : decode cX0_init 36 = .ok (.return_, 1) := by decide +kernel
set_option maxRecDepth 20000 in
theorem ggX0_examine_X4_put : GoodIn wsX0_examine wsX4_put := goodIn_r _ [11] (by decide +kernel) (by decide +kernel)
set_option maxRecDepth 20000 in
theorem gX0_examine_X4_put_n31 : GoodIn wsX0_examine (wsX4_put) := ggX0_examine_X4_put
set_option maxRecDepth 20000 in
theorem ggX0_examine_X3_area : GoodIn wsX0_examine wsX3_area := goodIn_r _ [16, 17, 18, 19, 20, 21, 22, 23, 24, 66, 67, 68, 69, 70, 71, 72, 73, 74, 75, 76, 77, 78, 79, 80, 81, 82, 83] (by decide +kernel) (by decide +kernel)
set_option maxRecDepth 20000 in
theorem gX0_examine_X3_area : GoodIn wsX0_examine (wsV RX0 35 RX3 yX3_area wsX3_area) := goodIn_app (goodIn_of _ (by decide +kernel)) ggX0_examine_X3_area
set_option maxRecDepth 20000 in
theorem ggX0_examine_X3_inksPlace : GoodIn wsX0_examine wsX3_inksPlace := goodIn_r _ [28, 29, 30, 10, 31, 66, 67, 68, 69, 70, 71, 72, 73, 74, 75, 76, 77, 78, 79, 80] (by decide +kernel) (by decide +kernel)
set_option maxRecDepth 20000 in
theorem gX0_examine_X3_inksPlace : GoodIn wsX0_examine (wsV RX0 41 RX3 yX3_inksPlace wsX3_inksPlace) := goodIn_app (goodIn_of _ (by decide +kernel)) ggX0_examine_X3_inksPlace
set_option maxRecDepth 20000 in
theorem ggX0_examine_X4_at : GoodIn wsX0_examine wsX4_at := goodIn_r _ [31] (by decide +kernel) (by decide +kernel)
set_option maxRecDepth 20000 in
theorem gX0_examine_X4_at_n45 : GoodIn wsX0_examine (wsX4_at) := ggX0_examine_X4_at
set_option maxRecDepth 20000 in
theorem ggX0_examine_X0_walkThrough : GoodIn wsX0_examine wsX0_walkThrough := goodIn_r _ [36, 4, 37, 38, 39, 40, 41, 42, 43, 35, 44, 3, 30, 10, 31, 45, 46, 47, 48, 49, 50, 9, 11, 51, 52, 53, 15, 54, 55, 25, 26, 27, 28, 29, 56, 57, 58, 59, 60, 61, 62, 63, 64, 65, 66, 67, 68, 69, 70, 71, 72, 73, 74, 75, 76, 77, 78, 79, 80] (by decide +kernel) (by decide +kernel)
set_option maxRecDepth 20000 in
theorem gX0_examine_X0_walkThrough : GoodIn wsX0_examine (wsV RX0 49 RX0 yX0_walkThrough wsX0_walkThrough) := goodIn_app (goodIn_of _ (by decide +kernel)) ggX0_examine_X0_walkThrough
theorem dX0_examine_0 : decode cX0_examine 0 = .ok (.aload_n 0, 1) := by decide +kernel
theorem dX0_examine_1 : decode cX0_examine 1 = .ok (.iconst 0, 1) := by decide +kernel
theorem dX0_examine_2 : decode cX0_examine 2 = .ok (.putfield 24, 3) := by decide +kernel
theorem dX0_examine_5 : decode cX0_examine 5 = .ok (.aload_n 0, 1) := by decide +kernel
theorem dX0_examine_6 : decode cX0_examine 6 = .ok (.iconst 0, 1) := by decide +kernel
theorem dX0_examine_7 : decode cX0_examine 7 = .ok (.putfield 28, 3) := by decide +kernel
theorem dX0_examine_10 : decode cX0_examine 10 = .ok (.iconst 0, 1) := by decide +kernel
theorem dX0_examine_11 : decode cX0_examine 11 = .ok (.istore_n 3, 1) := by decide +kernel
theorem dX0_examine_12 : decode cX0_examine 12 = .ok (.iload_n 3, 1) := by decide +kernel
theorem dX0_examine_13 : decode cX0_examine 13 = .ok (.bipush 64, 2) := by decide +kernel
theorem dX0_examine_15 : decode cX0_examine 15 = .ok (.if_icmp .ge 18, 3) := by decide +kernel
theorem dX0_examine_18 : decode cX0_examine 18 = .ok (.aload_n 0, 1) := by decide +kernel
theorem dX0_examine_19 : decode cX0_examine 19 = .ok (.getfield 9, 3) := by decide +kernel
theorem dX0_examine_22 : decode cX0_examine 22 = .ok (.iload_n 3, 1) := by decide +kernel
theorem dX0_examine_23 : decode cX0_examine 23 = .ok (.iconst 0, 1) := by decide +kernel
theorem dX0_examine_24 : decode cX0_examine 24 = .ok (.invokestatic 31, 3) := by decide +kernel
theorem dX0_examine_27 : decode cX0_examine 27 = .ok (.iinc 3 1, 3) := by decide +kernel
theorem dX0_examine_30 : decode cX0_examine 30 = .ok (.goto (-18), 3) := by decide +kernel
theorem dX0_examine_33 : decode cX0_examine 33 = .ok (.iconst 0, 1) := by decide +kernel
theorem dX0_examine_34 : decode cX0_examine 34 = .ok (.istore_n 3, 1) := by decide +kernel
theorem dX0_examine_35 : decode cX0_examine 35 = .ok (.iload_n 3, 1) := by decide +kernel
theorem dX0_examine_36 : decode cX0_examine 36 = .ok (.aload_n 1, 1) := by decide +kernel
theorem dX0_examine_37 : decode cX0_examine 37 = .ok (.invokevirtual 35, 3) := by decide +kernel
theorem dX0_examine_40 : decode cX0_examine 40 = .ok (.if_icmp .ge 61, 3) := by decide +kernel
theorem dX0_examine_43 : decode cX0_examine 43 = .ok (.aload_n 1, 1) := by decide +kernel
theorem dX0_examine_44 : decode cX0_examine 44 = .ok (.iload_n 3, 1) := by decide +kernel
theorem dX0_examine_45 : decode cX0_examine 45 = .ok (.iload_n 2, 1) := by decide +kernel
theorem dX0_examine_46 : decode cX0_examine 46 = .ok (.invokevirtual 41, 3) := by decide +kernel
theorem dX0_examine_49 : decode cX0_examine 49 = .ok (.ifCond .eq 46, 3) := by decide +kernel
theorem dX0_examine_52 : decode cX0_examine 52 = .ok (.aload_n 0, 1) := by decide +kernel
theorem dX0_examine_53 : decode cX0_examine 53 = .ok (.getfield 9, 3) := by decide +kernel
theorem dX0_examine_56 : decode cX0_examine 56 = .ok (.iload_n 3, 1) := by decide +kernel
theorem dX0_examine_57 : decode cX0_examine 57 = .ok (.invokestatic 45, 3) := by decide +kernel
theorem dX0_examine_60 : decode cX0_examine 60 = .ok (.ifCond .ne 35, 3) := by decide +kernel
theorem dX0_examine_63 : decode cX0_examine 63 = .ok (.aload_n 0, 1) := by decide +kernel
theorem dX0_examine_64 : decode cX0_examine 64 = .ok (.dup, 1) := by decide +kernel
theorem dX0_examine_65 : decode cX0_examine 65 = .ok (.getfield 24, 3) := by decide +kernel
theorem dX0_examine_68 : decode cX0_examine 68 = .ok (.iconst 1, 1) := by decide +kernel
theorem dX0_examine_69 : decode cX0_examine 69 = .ok (.iadd, 1) := by decide +kernel
theorem dX0_examine_70 : decode cX0_examine 70 = .ok (.putfield 24, 3) := by decide +kernel
theorem dX0_examine_73 : decode cX0_examine 73 = .ok (.aload_n 0, 1) := by decide +kernel
theorem dX0_examine_74 : decode cX0_examine 74 = .ok (.aload_n 1, 1) := by decide +kernel
theorem dX0_examine_75 : decode cX0_examine 75 = .ok (.iload_n 2, 1) := by decide +kernel
theorem dX0_examine_76 : decode cX0_examine 76 = .ok (.iload_n 3, 1) := by decide +kernel
theorem dX0_examine_77 : decode cX0_examine 77 = .ok (.invokevirtual 49, 3) := by decide +kernel
theorem dX0_examine_80 : decode cX0_examine 80 = .ok (.aload_n 0, 1) := by decide +kernel
theorem dX0_examine_81 : decode cX0_examine 81 = .ok (.aload_n 0, 1) := by decide +kernel
theorem dX0_examine_82 : decode cX0_examine 82 = .ok (.getfield 28, 3) := by decide +kernel
theorem dX0_examine_85 : decode cX0_examine 85 = .ok (.aload_n 0, 1) := by decide +kernel
theorem dX0_examine_86 : decode cX0_examine 86 = .ok (.getfield 53, 3) := by decide +kernel
theorem dX0_examine_89 : decode cX0_examine 89 = .ok (.invokestatic 56, 3) := by decide +kernel
theorem dX0_examine_92 : decode cX0_examine 92 = .ok (.putfield 28, 3) := by decide +kernel
theorem dX0_examine_95 : decode cX0_examine 95 = .ok (.iinc 3 1, 3) := by decide +kernel
theorem dX0_examine_98 : decode cX0_examine 98 = .ok (.goto (-63), 3) := by decide +kernel
theorem dX0_examine_101 : decode cX0_examine 101 = .ok (.return_, 1) := by decide +kernel
set_option maxRecDepth 20000 in
theorem ggX0_walkThrough_X0_reach : GoodIn wsX0_walkThrough wsX0_reach := goodIn_r _ [10, 11, 4, 5, 3, 2, 12, 13, 14, 15, 16, 17, 9, 18, 1, 19, 20, 21, 22, 34, 35, 36, 37, 38, 39, 40, 41, 42, 43] (by decide +kernel) (by decide +kernel)
set_option maxRecDepth 20000 in
theorem gX0_walkThrough_X0_reach : GoodIn wsX0_walkThrough (wsV RX0 65 RX0 yX0_reach wsX0_reach) := goodIn_app (goodIn_of _ (by decide +kernel)) ggX0_walkThrough_X0_reach
set_option maxRecDepth 20000 in
theorem ggX0_walkThrough_X4_at : GoodIn wsX0_walkThrough wsX4_at := goodIn_r _ [14] (by decide +kernel) (by decide +kernel)
set_option maxRecDepth 20000 in
theorem gX0_walkThrough_X4_at_n45 : GoodIn wsX0_walkThrough (wsX4_at) := ggX0_walkThrough_X4_at
set_option maxRecDepth 20000 in
theorem ggX0_walkThrough_X3_neighbor : GoodIn wsX0_walkThrough wsX3_neighbor := goodIn_r _ [27, 28, 12, 13, 14, 44, 45, 46, 47, 48, 49, 50, 51, 52, 53, 54, 55, 56, 57, 58] (by decide +kernel) (by decide +kernel)
set_option maxRecDepth 20000 in
theorem gX0_walkThrough_X3_neighbor : GoodIn wsX0_walkThrough (wsV RX0 69 RX3 yX3_neighbor wsX3_neighbor) := goodIn_app (goodIn_of _ (by decide +kernel)) ggX0_walkThrough_X3_neighbor
set_option maxRecDepth 20000 in
theorem ggX0_walkThrough_X3_inksPlace : GoodIn wsX0_walkThrough wsX3_inksPlace := goodIn_r _ [32, 33, 12, 13, 14, 44, 45, 46, 47, 48, 49, 50, 51, 52, 53, 54, 55, 56, 57, 58] (by decide +kernel) (by decide +kernel)
set_option maxRecDepth 20000 in
theorem gX0_walkThrough_X3_inksPlace : GoodIn wsX0_walkThrough (wsV RX0 41 RX3 yX3_inksPlace wsX3_inksPlace) := goodIn_app (goodIn_of _ (by decide +kernel)) ggX0_walkThrough_X3_inksPlace
theorem dX0_walkThrough_0 : decode cX0_walkThrough 0 = .ok (.aload_n 0, 1) := by decide +kernel
theorem dX0_walkThrough_1 : decode cX0_walkThrough 1 = .ok (.iconst 0, 1) := by decide +kernel
theorem dX0_walkThrough_2 : decode cX0_walkThrough 2 = .ok (.putfield 53, 3) := by decide +kernel
theorem dX0_walkThrough_5 : decode cX0_walkThrough 5 = .ok (.aload_n 0, 1) := by decide +kernel
theorem dX0_walkThrough_6 : decode cX0_walkThrough 6 = .ok (.iconst 0, 1) := by decide +kernel
theorem dX0_walkThrough_7 : decode cX0_walkThrough 7 = .ok (.putfield 62, 3) := by decide +kernel
theorem dX0_walkThrough_10 : decode cX0_walkThrough 10 = .ok (.aload_n 0, 1) := by decide +kernel
theorem dX0_walkThrough_11 : decode cX0_walkThrough 11 = .ok (.iload_n 3, 1) := by decide +kernel
theorem dX0_walkThrough_12 : decode cX0_walkThrough 12 = .ok (.iconst 0, 1) := by decide +kernel
theorem dX0_walkThrough_13 : decode cX0_walkThrough 13 = .ok (.iconst 0, 1) := by decide +kernel
theorem dX0_walkThrough_14 : decode cX0_walkThrough 14 = .ok (.invokevirtual 65, 3) := by decide +kernel
theorem dX0_walkThrough_17 : decode cX0_walkThrough 17 = .ok (.iconst 0, 1) := by decide +kernel
theorem dX0_walkThrough_18 : decode cX0_walkThrough 18 = .ok (.istore 4, 2) := by decide +kernel
theorem dX0_walkThrough_20 : decode cX0_walkThrough 20 = .ok (.iload 4, 2) := by decide +kernel
theorem dX0_walkThrough_22 : decode cX0_walkThrough 22 = .ok (.bipush 64, 2) := by decide +kernel
theorem dX0_walkThrough_24 : decode cX0_walkThrough 24 = .ok (.if_icmp .ge 114, 3) := by decide +kernel
theorem dX0_walkThrough_27 : decode cX0_walkThrough 27 = .ok (.iload 4, 2) := by decide +kernel
theorem dX0_walkThrough_29 : decode cX0_walkThrough 29 = .ok (.aload_n 0, 1) := by decide +kernel
theorem dX0_walkThrough_30 : decode cX0_walkThrough 30 = .ok (.getfield 62, 3) := by decide +kernel
theorem dX0_walkThrough_33 : decode cX0_walkThrough 33 = .ok (.if_icmp .ge 105, 3) := by decide +kernel
theorem dX0_walkThrough_36 : decode cX0_walkThrough 36 = .ok (.aload_n 0, 1) := by decide +kernel
theorem dX0_walkThrough_37 : decode cX0_walkThrough 37 = .ok (.getfield 21, 3) := by decide +kernel
theorem dX0_walkThrough_40 : decode cX0_walkThrough 40 = .ok (.iload 4, 2) := by decide +kernel
theorem dX0_walkThrough_42 : decode cX0_walkThrough 42 = .ok (.invokestatic 45, 3) := by decide +kernel
theorem dX0_walkThrough_45 : decode cX0_walkThrough 45 = .ok (.istore 5, 2) := by decide +kernel
theorem dX0_walkThrough_47 : decode cX0_walkThrough 47 = .ok (.iconst 0, 1) := by decide +kernel
theorem dX0_walkThrough_48 : decode cX0_walkThrough 48 = .ok (.istore 6, 2) := by decide +kernel
theorem dX0_walkThrough_50 : decode cX0_walkThrough 50 = .ok (.iload 6, 2) := by decide +kernel
theorem dX0_walkThrough_52 : decode cX0_walkThrough 52 = .ok (.iconst 4, 1) := by decide +kernel
theorem dX0_walkThrough_53 : decode cX0_walkThrough 53 = .ok (.if_icmp .ge 79, 3) := by decide +kernel
theorem dX0_walkThrough_56 : decode cX0_walkThrough 56 = .ok (.aload_n 1, 1) := by decide +kernel
theorem dX0_walkThrough_57 : decode cX0_walkThrough 57 = .ok (.iload 5, 2) := by decide +kernel
theorem dX0_walkThrough_59 : decode cX0_walkThrough 59 = .ok (.iload 6, 2) := by decide +kernel
theorem dX0_walkThrough_61 : decode cX0_walkThrough 61 = .ok (.invokevirtual 69, 3) := by decide +kernel
theorem dX0_walkThrough_64 : decode cX0_walkThrough 64 = .ok (.istore 7, 2) := by decide +kernel
theorem dX0_walkThrough_66 : decode cX0_walkThrough 66 = .ok (.aload_n 1, 1) := by decide +kernel
theorem dX0_walkThrough_67 : decode cX0_walkThrough 67 = .ok (.iload 7, 2) := by decide +kernel
theorem dX0_walkThrough_69 : decode cX0_walkThrough 69 = .ok (.iload_n 2, 1) := by decide +kernel
theorem dX0_walkThrough_70 : decode cX0_walkThrough 70 = .ok (.invokevirtual 41, 3) := by decide +kernel
theorem dX0_walkThrough_73 : decode cX0_walkThrough 73 = .ok (.ifCond .eq 53, 3) := by decide +kernel
theorem dX0_walkThrough_76 : decode cX0_walkThrough 76 = .ok (.aload_n 0, 1) := by decide +kernel
theorem dX0_walkThrough_77 : decode cX0_walkThrough 77 = .ok (.getfield 15, 3) := by decide +kernel
theorem dX0_walkThrough_80 : decode cX0_walkThrough 80 = .ok (.iload 5, 2) := by decide +kernel
theorem dX0_walkThrough_82 : decode cX0_walkThrough 82 = .ok (.invokestatic 45, 3) := by decide +kernel
theorem dX0_walkThrough_85 : decode cX0_walkThrough 85 = .ok (.getstatic 72, 3) := by decide +kernel
theorem dX0_walkThrough_88 : decode cX0_walkThrough 88 = .ok (.iload 6, 2) := by decide +kernel
theorem dX0_walkThrough_90 : decode cX0_walkThrough 90 = .ok (.invokestatic 45, 3) := by decide +kernel
theorem dX0_walkThrough_93 : decode cX0_walkThrough 93 = .ok (.iadd, 1) := by decide +kernel
theorem dX0_walkThrough_94 : decode cX0_walkThrough 94 = .ok (.istore 8, 2) := by decide +kernel
theorem dX0_walkThrough_96 : decode cX0_walkThrough 96 = .ok (.aload_n 0, 1) := by decide +kernel
theorem dX0_walkThrough_97 : decode cX0_walkThrough 97 = .ok (.getfield 18, 3) := by decide +kernel
theorem dX0_walkThrough_100 : decode cX0_walkThrough 100 = .ok (.iload 5, 2) := by decide +kernel
theorem dX0_walkThrough_102 : decode cX0_walkThrough 102 = .ok (.invokestatic 45, 3) := by decide +kernel
theorem dX0_walkThrough_105 : decode cX0_walkThrough 105 = .ok (.getstatic 75, 3) := by decide +kernel
theorem dX0_walkThrough_108 : decode cX0_walkThrough 108 = .ok (.iload 6, 2) := by decide +kernel
theorem dX0_walkThrough_110 : decode cX0_walkThrough 110 = .ok (.invokestatic 45, 3) := by decide +kernel
theorem dX0_walkThrough_113 : decode cX0_walkThrough 113 = .ok (.iadd, 1) := by decide +kernel
theorem dX0_walkThrough_114 : decode cX0_walkThrough 114 = .ok (.istore 9, 2) := by decide +kernel
theorem dX0_walkThrough_116 : decode cX0_walkThrough 116 = .ok (.aload_n 0, 1) := by decide +kernel
theorem dX0_walkThrough_117 : decode cX0_walkThrough 117 = .ok (.iload 7, 2) := by decide +kernel
theorem dX0_walkThrough_119 : decode cX0_walkThrough 119 = .ok (.iload 8, 2) := by decide +kernel
theorem dX0_walkThrough_121 : decode cX0_walkThrough 121 = .ok (.iload 9, 2) := by decide +kernel
theorem dX0_walkThrough_123 : decode cX0_walkThrough 123 = .ok (.invokevirtual 65, 3) := by decide +kernel
theorem dX0_walkThrough_126 : decode cX0_walkThrough 126 = .ok (.iinc 6 1, 3) := by decide +kernel
theorem dX0_walkThrough_129 : decode cX0_walkThrough 129 = .ok (.goto (-79), 3) := by decide +kernel
theorem dX0_walkThrough_132 : decode cX0_walkThrough 132 = .ok (.iinc 4 1, 3) := by decide +kernel
theorem dX0_walkThrough_135 : decode cX0_walkThrough 135 = .ok (.goto (-115), 3) := by decide +kernel
theorem dX0_walkThrough_138 : decode cX0_walkThrough 138 = .ok (.return_, 1) := by decide +kernel
set_option maxRecDepth 20000 in
theorem ggX0_reach_X4_at : GoodIn wsX0_reach wsX4_at := goodIn_r _ [8] (by decide +kernel) (by decide +kernel)
set_option maxRecDepth 20000 in
theorem gX0_reach_X4_at_n45 : GoodIn wsX0_reach (wsX4_at) := ggX0_reach_X4_at
set_option maxRecDepth 20000 in
theorem ggX0_reach_X0_join : GoodIn wsX0_reach wsX0_join := goodIn_r _ [13, 14, 15, 16, 19, 20, 21, 22, 23, 24, 25, 26, 27, 28] (by decide +kernel) (by decide +kernel)
set_option maxRecDepth 20000 in
theorem gX0_reach_X0_join : GoodIn wsX0_reach (wsV RX0 78 RX0 yX0_join wsX0_join) := goodIn_app (goodIn_of _ (by decide +kernel)) ggX0_reach_X0_join
set_option maxRecDepth 20000 in
theorem ggX0_reach_X4_put : GoodIn wsX0_reach wsX4_put := goodIn_r _ [18] (by decide +kernel) (by decide +kernel)
set_option maxRecDepth 20000 in
theorem gX0_reach_X4_put_n31 : GoodIn wsX0_reach (wsX4_put) := ggX0_reach_X4_put
theorem dX0_reach_0 : decode cX0_reach 0 = .ok (.aload_n 0, 1) := by decide +kernel
theorem dX0_reach_1 : decode cX0_reach 1 = .ok (.getfield 9, 3) := by decide +kernel
theorem dX0_reach_4 : decode cX0_reach 4 = .ok (.iload_n 1, 1) := by decide +kernel
theorem dX0_reach_5 : decode cX0_reach 5 = .ok (.invokestatic 45, 3) := by decide +kernel
theorem dX0_reach_8 : decode cX0_reach 8 = .ok (.iconst 1, 1) := by decide +kernel
theorem dX0_reach_9 : decode cX0_reach 9 = .ok (.if_icmp .ne 28, 3) := by decide +kernel
theorem dX0_reach_12 : decode cX0_reach 12 = .ok (.aload_n 0, 1) := by decide +kernel
theorem dX0_reach_13 : decode cX0_reach 13 = .ok (.iload_n 2, 1) := by decide +kernel
theorem dX0_reach_14 : decode cX0_reach 14 = .ok (.aload_n 0, 1) := by decide +kernel
theorem dX0_reach_15 : decode cX0_reach 15 = .ok (.getfield 15, 3) := by decide +kernel
theorem dX0_reach_18 : decode cX0_reach 18 = .ok (.iload_n 1, 1) := by decide +kernel
theorem dX0_reach_19 : decode cX0_reach 19 = .ok (.invokestatic 45, 3) := by decide +kernel
theorem dX0_reach_22 : decode cX0_reach 22 = .ok (.isub, 1) := by decide +kernel
theorem dX0_reach_23 : decode cX0_reach 23 = .ok (.iload_n 3, 1) := by decide +kernel
theorem dX0_reach_24 : decode cX0_reach 24 = .ok (.aload_n 0, 1) := by decide +kernel
theorem dX0_reach_25 : decode cX0_reach 25 = .ok (.getfield 18, 3) := by decide +kernel
theorem dX0_reach_28 : decode cX0_reach 28 = .ok (.iload_n 1, 1) := by decide +kernel
theorem dX0_reach_29 : decode cX0_reach 29 = .ok (.invokestatic 45, 3) := by decide +kernel
theorem dX0_reach_32 : decode cX0_reach 32 = .ok (.isub, 1) := by decide +kernel
theorem dX0_reach_33 : decode cX0_reach 33 = .ok (.invokevirtual 78, 3) := by decide +kernel
theorem dX0_reach_36 : decode cX0_reach 36 = .ok (.return_, 1) := by decide +kernel
theorem dX0_reach_37 : decode cX0_reach 37 = .ok (.aload_n 0, 1) := by decide +kernel
theorem dX0_reach_38 : decode cX0_reach 38 = .ok (.getfield 9, 3) := by decide +kernel
theorem dX0_reach_41 : decode cX0_reach 41 = .ok (.iload_n 1, 1) := by decide +kernel
theorem dX0_reach_42 : decode cX0_reach 42 = .ok (.iconst 1, 1) := by decide +kernel
theorem dX0_reach_43 : decode cX0_reach 43 = .ok (.invokestatic 31, 3) := by decide +kernel
theorem dX0_reach_46 : decode cX0_reach 46 = .ok (.aload_n 0, 1) := by decide +kernel
theorem dX0_reach_47 : decode cX0_reach 47 = .ok (.getfield 15, 3) := by decide +kernel
theorem dX0_reach_50 : decode cX0_reach 50 = .ok (.iload_n 1, 1) := by decide +kernel
theorem dX0_reach_51 : decode cX0_reach 51 = .ok (.iload_n 2, 1) := by decide +kernel
theorem dX0_reach_52 : decode cX0_reach 52 = .ok (.invokestatic 31, 3) := by decide +kernel
theorem dX0_reach_55 : decode cX0_reach 55 = .ok (.aload_n 0, 1) := by decide +kernel
theorem dX0_reach_56 : decode cX0_reach 56 = .ok (.getfield 18, 3) := by decide +kernel
theorem dX0_reach_59 : decode cX0_reach 59 = .ok (.iload_n 1, 1) := by decide +kernel
theorem dX0_reach_60 : decode cX0_reach 60 = .ok (.iload_n 3, 1) := by decide +kernel
theorem dX0_reach_61 : decode cX0_reach 61 = .ok (.invokestatic 31, 3) := by decide +kernel
theorem dX0_reach_64 : decode cX0_reach 64 = .ok (.aload_n 0, 1) := by decide +kernel
theorem dX0_reach_65 : decode cX0_reach 65 = .ok (.getfield 21, 3) := by decide +kernel
theorem dX0_reach_68 : decode cX0_reach 68 = .ok (.aload_n 0, 1) := by decide +kernel
theorem dX0_reach_69 : decode cX0_reach 69 = .ok (.getfield 62, 3) := by decide +kernel
theorem dX0_reach_72 : decode cX0_reach 72 = .ok (.iload_n 1, 1) := by decide +kernel
theorem dX0_reach_73 : decode cX0_reach 73 = .ok (.invokestatic 31, 3) := by decide +kernel
theorem dX0_reach_76 : decode cX0_reach 76 = .ok (.aload_n 0, 1) := by decide +kernel
theorem dX0_reach_77 : decode cX0_reach 77 = .ok (.dup, 1) := by decide +kernel
theorem dX0_reach_78 : decode cX0_reach 78 = .ok (.getfield 62, 3) := by decide +kernel
theorem dX0_reach_81 : decode cX0_reach 81 = .ok (.iconst 1, 1) := by decide +kernel
theorem dX0_reach_82 : decode cX0_reach 82 = .ok (.iadd, 1) := by decide +kernel
theorem dX0_reach_83 : decode cX0_reach 83 = .ok (.putfield 62, 3) := by decide +kernel
theorem dX0_reach_86 : decode cX0_reach 86 = .ok (.return_, 1) := by decide +kernel
theorem dX0_join_0 : decode cX0_join 0 = .ok (.iload_n 1, 1) := by decide +kernel
theorem dX0_join_1 : decode cX0_join 1 = .ok (.ifCond .ne 8, 3) := by decide +kernel
theorem dX0_join_4 : decode cX0_join 4 = .ok (.iload_n 2, 1) := by decide +kernel
theorem dX0_join_5 : decode cX0_join 5 = .ok (.ifCond .ne 4, 3) := by decide +kernel
theorem dX0_join_8 : decode cX0_join 8 = .ok (.return_, 1) := by decide +kernel
theorem dX0_join_9 : decode cX0_join 9 = .ok (.aload_n 0, 1) := by decide +kernel
theorem dX0_join_10 : decode cX0_join 10 = .ok (.getfield 53, 3) := by decide +kernel
theorem dX0_join_13 : decode cX0_join 13 = .ok (.ifCond .ne 21, 3) := by decide +kernel
theorem dX0_join_16 : decode cX0_join 16 = .ok (.aload_n 0, 1) := by decide +kernel
theorem dX0_join_17 : decode cX0_join 17 = .ok (.iconst 1, 1) := by decide +kernel
theorem dX0_join_18 : decode cX0_join 18 = .ok (.putfield 53, 3) := by decide +kernel
theorem dX0_join_21 : decode cX0_join 21 = .ok (.aload_n 0, 1) := by decide +kernel
theorem dX0_join_22 : decode cX0_join 22 = .ok (.iload_n 1, 1) := by decide +kernel
theorem dX0_join_23 : decode cX0_join 23 = .ok (.putfield 82, 3) := by decide +kernel
theorem dX0_join_26 : decode cX0_join 26 = .ok (.aload_n 0, 1) := by decide +kernel
theorem dX0_join_27 : decode cX0_join 27 = .ok (.iload_n 2, 1) := by decide +kernel
theorem dX0_join_28 : decode cX0_join 28 = .ok (.putfield 85, 3) := by decide +kernel
theorem dX0_join_31 : decode cX0_join 31 = .ok (.goto 23, 3) := by decide +kernel
theorem dX0_join_34 : decode cX0_join 34 = .ok (.iload_n 1, 1) := by decide +kernel
theorem dX0_join_35 : decode cX0_join 35 = .ok (.aload_n 0, 1) := by decide +kernel
theorem dX0_join_36 : decode cX0_join 36 = .ok (.getfield 85, 3) := by decide +kernel
theorem dX0_join_39 : decode cX0_join 39 = .ok (.imul, 1) := by decide +kernel
theorem dX0_join_40 : decode cX0_join 40 = .ok (.iload_n 2, 1) := by decide +kernel
theorem dX0_join_41 : decode cX0_join 41 = .ok (.aload_n 0, 1) := by decide +kernel
theorem dX0_join_42 : decode cX0_join 42 = .ok (.getfield 82, 3) := by decide +kernel
theorem dX0_join_45 : decode cX0_join 45 = .ok (.imul, 1) := by decide +kernel
theorem dX0_join_46 : decode cX0_join 46 = .ok (.if_icmp .eq 8, 3) := by decide +kernel
theorem dX0_join_49 : decode cX0_join 49 = .ok (.aload_n 0, 1) := by decide +kernel
theorem dX0_join_50 : decode cX0_join 50 = .ok (.iconst 2, 1) := by decide +kernel
theorem dX0_join_51 : decode cX0_join 51 = .ok (.putfield 53, 3) := by decide +kernel
theorem dX0_join_54 : decode cX0_join 54 = .ok (.return_, 1) := by decide +kernel
theorem dX1_init_0 : decode cX1_init 0 = .ok (.aload_n 0, 1) := by decide +kernel
theorem dX1_init_1 : decode cX1_init 1 = .ok (.invokespecial 3, 3) := by decide +kernel
theorem dX1_init_4 : decode cX1_init 4 = .ok (.aload_n 0, 1) := by decide +kernel
theorem dX1_init_5 : decode cX1_init 5 = .ok (.bipush 20, 2) := by decide +kernel
theorem dX1_init_7 : decode cX1_init 7 = .ok (.newarray .int, 2) := by decide +kernel
theorem dX1_init_9 : decode cX1_init 9 = .ok (.putfield 9, 3) := by decide +kernel
theorem dX1_init_12 : decode cX1_init 12 = .ok (.aload_n 0, 1) := by decide +kernel
theorem dX1_init_13 : decode cX1_init 13 = .ok (.iconst 4, 1) := by decide +kernel
theorem dX1_init_14 : decode cX1_init 14 = .ok (.newarray .int, 2) := by decide +kernel
theorem dX1_init_16 : decode cX1_init 16 = .ok (.putfield 15, 3) := by decide +kernel
theorem dX1_init_19 : decode cX1_init 19 = .ok (.return_, 1) := by decide +kernel
set_option maxRecDepth 20000 in
theorem ggX1_add_X4_put : GoodIn wsX1_add wsX4_put := goodIn_r _ [5] (by decide +kernel) (by decide +kernel)
set_option maxRecDepth 20000 in
theorem gX1_add_X4_put_n22 : GoodIn wsX1_add (wsX4_put) := ggX1_add_X4_put
theorem dX1_add_0 : decode cX1_add 0 = .ok (.aload_n 0, 1) := by decide +kernel
theorem dX1_add_1 : decode cX1_add 1 = .ok (.getfield 9, 3) := by decide +kernel
theorem dX1_add_4 : decode cX1_add 4 = .ok (.aload_n 0, 1) := by decide +kernel
theorem dX1_add_5 : decode cX1_add 5 = .ok (.getfield 18, 3) := by decide +kernel
theorem dX1_add_8 : decode cX1_add 8 = .ok (.iload_n 1, 1) := by decide +kernel
theorem dX1_add_9 : decode cX1_add 9 = .ok (.invokestatic 22, 3) := by decide +kernel
theorem dX1_add_12 : decode cX1_add 12 = .ok (.aload_n 0, 1) := by decide +kernel
theorem dX1_add_13 : decode cX1_add 13 = .ok (.dup, 1) := by decide +kernel
theorem dX1_add_14 : decode cX1_add 14 = .ok (.getfield 18, 3) := by decide +kernel
theorem dX1_add_17 : decode cX1_add 17 = .ok (.iconst 1, 1) := by decide +kernel
theorem dX1_add_18 : decode cX1_add 18 = .ok (.iadd, 1) := by decide +kernel
theorem dX1_add_19 : decode cX1_add 19 = .ok (.putfield 18, 3) := by decide +kernel
theorem dX1_add_22 : decode cX1_add 22 = .ok (.aload_n 0, 1) := by decide +kernel
theorem dX1_add_23 : decode cX1_add 23 = .ok (.getfield 18, 3) := by decide +kernel
theorem dX1_add_26 : decode cX1_add 26 = .ok (.ireturn, 1) := by decide +kernel
set_option maxRecDepth 20000 in
theorem ggX1_isComplete_X1_read : GoodIn wsX1_isComplete wsX1_read := goodIn_r _ [7, 2, 8, 9, 10, 11, 1, 12, 13, 14, 15, 16, 17, 18, 6, 19, 20, 21, 22, 23, 24, 25, 26, 27, 28, 29, 30, 31, 32, 33, 34, 35, 36, 37, 38, 39, 40, 41, 42, 43, 44, 45, 46, 47, 48, 49, 50] (by decide +kernel) (by decide +kernel)
set_option maxRecDepth 20000 in
theorem gX1_isComplete_X1_read : GoodIn wsX1_isComplete (wsV RX1 26 RX1 yX1_read wsX1_read) := goodIn_app (goodIn_of _ (by decide +kernel)) ggX1_isComplete_X1_read
theorem dX1_isComplete_0 : decode cX1_isComplete 0 = .ok (.aload_n 0, 1) := by decide +kernel
theorem dX1_isComplete_1 : decode cX1_isComplete 1 = .ok (.invokevirtual 26, 3) := by decide +kernel
theorem dX1_isComplete_4 : decode cX1_isComplete 4 = .ok (.aload_n 0, 1) := by decide +kernel
theorem dX1_isComplete_5 : decode cX1_isComplete 5 = .ok (.getfield 18, 3) := by decide +kernel
theorem dX1_isComplete_8 : decode cX1_isComplete 8 = .ok (.if_icmp .ne 23, 3) := by decide +kernel
theorem dX1_isComplete_11 : decode cX1_isComplete 11 = .ok (.aload_n 0, 1) := by decide +kernel
theorem dX1_isComplete_12 : decode cX1_isComplete 12 = .ok (.getfield 30, 3) := by decide +kernel
theorem dX1_isComplete_15 : decode cX1_isComplete 15 = .ok (.iconst 3, 1) := by decide +kernel
theorem dX1_isComplete_16 : decode cX1_isComplete 16 = .ok (.if_icmp .eq 11, 3) := by decide +kernel
theorem dX1_isComplete_19 : decode cX1_isComplete 19 = .ok (.aload_n 0, 1) := by decide +kernel
theorem dX1_isComplete_20 : decode cX1_isComplete 20 = .ok (.getfield 30, 3) := by decide +kernel
theorem dX1_isComplete_23 : decode cX1_isComplete 23 = .ok (.iconst 4, 1) := by decide +kernel
theorem dX1_isComplete_24 : decode cX1_isComplete 24 = .ok (.if_icmp .ne 7, 3) := by decide +kernel
theorem dX1_isComplete_27 : decode cX1_isComplete 27 = .ok (.iconst 1, 1) := by decide +kernel
theorem dX1_isComplete_28 : decode cX1_isComplete 28 = .ok (.goto 4, 3) := by decide +kernel
theorem dX1_isComplete_31 : decode cX1_isComplete 31 = .ok (.iconst 0, 1) := by decide +kernel
theorem dX1_isComplete_32 : decode cX1_isComplete 32 = .ok (.ireturn, 1) := by decide +kernel
set_option maxRecDepth 20000 in
theorem ggX1_read_X4_at : GoodIn wsX1_read wsX4_at := goodIn_r _ [10] (by decide +kernel) (by decide +kernel)
set_option maxRecDepth 20000 in
theorem gX1_read_X4_at_n46 : GoodIn wsX1_read (wsX4_at) := ggX1_read_X4_at
set_option maxRecDepth 20000 in
theorem ggX1_read_X1_take : GoodIn wsX1_read wsX1_take := goodIn_r _ [15, 1, 2, 16, 17, 18, 14, 19, 3, 20, 21, 22, 23, 24, 25, 9, 26, 27, 28, 29, 30, 31, 32, 33, 34, 4, 35, 36, 37, 38, 5, 39, 40, 41, 42, 43, 44, 45, 46] (by decide +kernel) (by decide +kernel)
set_option maxRecDepth 20000 in
theorem gX1_read_X1_take : GoodIn wsX1_read (wsV RX1 50 RX1 yX1_take wsX1_take) := goodIn_app (goodIn_of _ (by decide +kernel)) ggX1_read_X1_take
theorem dX1_read_0 : decode cX1_read 0 = .ok (.aload_n 0, 1) := by decide +kernel
theorem dX1_read_1 : decode cX1_read 1 = .ok (.iconst 0, 1) := by decide +kernel
theorem dX1_read_2 : decode cX1_read 2 = .ok (.putfield 30, 3) := by decide +kernel
theorem dX1_read_5 : decode cX1_read 5 = .ok (.aload_n 0, 1) := by decide +kernel
theorem dX1_read_6 : decode cX1_read 6 = .ok (.iconst 0, 1) := by decide +kernel
theorem dX1_read_7 : decode cX1_read 7 = .ok (.putfield 33, 3) := by decide +kernel
theorem dX1_read_10 : decode cX1_read 10 = .ok (.aload_n 0, 1) := by decide +kernel
theorem dX1_read_11 : decode cX1_read 11 = .ok (.iconst 0, 1) := by decide +kernel
theorem dX1_read_12 : decode cX1_read 12 = .ok (.putfield 36, 3) := by decide +kernel
theorem dX1_read_15 : decode cX1_read 15 = .ok (.aload_n 0, 1) := by decide +kernel
theorem dX1_read_16 : decode cX1_read 16 = .ok (.iconst 0, 1) := by decide +kernel
theorem dX1_read_17 : decode cX1_read 17 = .ok (.putfield 40, 3) := by decide +kernel
theorem dX1_read_20 : decode cX1_read 20 = .ok (.aload_n 0, 1) := by decide +kernel
theorem dX1_read_21 : decode cX1_read 21 = .ok (.iconst 0, 1) := by decide +kernel
theorem dX1_read_22 : decode cX1_read 22 = .ok (.putfield 43, 3) := by decide +kernel
theorem dX1_read_25 : decode cX1_read 25 = .ok (.iconst 0, 1) := by decide +kernel
theorem dX1_read_26 : decode cX1_read 26 = .ok (.istore_n 1, 1) := by decide +kernel
theorem dX1_read_27 : decode cX1_read 27 = .ok (.iload_n 1, 1) := by decide +kernel
theorem dX1_read_28 : decode cX1_read 28 = .ok (.aload_n 0, 1) := by decide +kernel
theorem dX1_read_29 : decode cX1_read 29 = .ok (.getfield 18, 3) := by decide +kernel
theorem dX1_read_32 : decode cX1_read 32 = .ok (.if_icmp .ge 26, 3) := by decide +kernel
theorem dX1_read_35 : decode cX1_read 35 = .ok (.aload_n 0, 1) := by decide +kernel
theorem dX1_read_36 : decode cX1_read 36 = .ok (.aload_n 0, 1) := by decide +kernel
theorem dX1_read_37 : decode cX1_read 37 = .ok (.getfield 9, 3) := by decide +kernel
theorem dX1_read_40 : decode cX1_read 40 = .ok (.iload_n 1, 1) := by decide +kernel
theorem dX1_read_41 : decode cX1_read 41 = .ok (.invokestatic 46, 3) := by decide +kernel
theorem dX1_read_44 : decode cX1_read 44 = .ok (.invokevirtual 50, 3) := by decide +kernel
theorem dX1_read_47 : decode cX1_read 47 = .ok (.ifCond .ne 5, 3) := by decide +kernel
theorem dX1_read_50 : decode cX1_read 50 = .ok (.iload_n 1, 1) := by decide +kernel
theorem dX1_read_51 : decode cX1_read 51 = .ok (.ireturn, 1) := by decide +kernel
theorem dX1_read_52 : decode cX1_read 52 = .ok (.iinc 1 1, 3) := by decide +kernel
theorem dX1_read_55 : decode cX1_read 55 = .ok (.goto (-28), 3) := by decide +kernel
theorem dX1_read_58 : decode cX1_read 58 = .ok (.aload_n 0, 1) := by decide +kernel
theorem dX1_read_59 : decode cX1_read 59 = .ok (.getfield 18, 3) := by decide +kernel
theorem dX1_read_62 : decode cX1_read 62 = .ok (.ireturn, 1) := by decide +kernel
set_option maxRecDepth 20000 in
theorem ggX1_take_X1_takeMinus : GoodIn wsX1_take wsX1_takeMinus := goodIn_r _ [7, 8, 1, 31, 32, 33, 34, 35, 36, 37, 38] (by decide +kernel) (by decide +kernel)
set_option maxRecDepth 20000 in
theorem gX1_take_X1_takeMinus : GoodIn wsX1_take (wsV RX1 54 RX1 yX1_takeMinus wsX1_takeMinus) := goodIn_app (goodIn_of _ (by decide +kernel)) ggX1_take_X1_takeMinus
set_option maxRecDepth 20000 in
theorem ggX1_take_X1_takeDigit : GoodIn wsX1_take wsX1_takeDigit := goodIn_r _ [12, 13, 2, 8, 1, 14, 15, 16, 31, 32, 33, 34, 35, 36, 37, 38] (by decide +kernel) (by decide +kernel)
set_option maxRecDepth 20000 in
theorem gX1_take_X1_takeDigit : GoodIn wsX1_take (wsV RX1 57 RX1 yX1_takeDigit wsX1_takeDigit) := goodIn_app (goodIn_of _ (by decide +kernel)) ggX1_take_X1_takeDigit
set_option maxRecDepth 20000 in
theorem ggX1_take_X1_takeSeparator : GoodIn wsX1_take wsX1_takeSeparator := goodIn_r _ [20, 2, 8, 1, 31, 32, 33, 34, 35, 36, 37, 38] (by decide +kernel) (by decide +kernel)
set_option maxRecDepth 20000 in
theorem gX1_take_X1_takeSeparator : GoodIn wsX1_take (wsV RX1 60 RX1 yX1_takeSeparator wsX1_takeSeparator) := goodIn_app (goodIn_of _ (by decide +kernel)) ggX1_take_X1_takeSeparator
set_option maxRecDepth 20000 in
theorem ggX1_take_X1_takeLetter : GoodIn wsX1_take wsX1_takeLetter := goodIn_r _ [24, 25, 1, 31, 32, 33, 34, 35, 36, 37, 38] (by decide +kernel) (by decide +kernel)
set_option maxRecDepth 20000 in
theorem gX1_take_X1_takeLetter : GoodIn wsX1_take (wsV RX1 63 RX1 yX1_takeLetter wsX1_takeLetter) := goodIn_app (goodIn_of _ (by decide +kernel)) ggX1_take_X1_takeLetter
set_option maxRecDepth 20000 in
theorem ggX1_take_X1_takeStar : GoodIn wsX1_take wsX1_takeStar := goodIn_r _ [29, 30, 1, 31, 32, 33, 34, 35, 36, 37, 38] (by decide +kernel) (by decide +kernel)
set_option maxRecDepth 20000 in
theorem gX1_take_X1_takeStar : GoodIn wsX1_take (wsV RX1 66 RX1 yX1_takeStar wsX1_takeStar) := goodIn_app (goodIn_of _ (by decide +kernel)) ggX1_take_X1_takeStar
theorem dX1_take_0 : decode cX1_take 0 = .ok (.aload_n 0, 1) := by decide +kernel
theorem dX1_take_1 : decode cX1_take 1 = .ok (.getfield 30, 3) := by decide +kernel
theorem dX1_take_4 : decode cX1_take 4 = .ok (.tableswitch 88 0 3 #[32, 54, 60, 82], 32) := by decide +kernel
theorem dX1_take_36 : decode cX1_take 36 = .ok (.aload_n 0, 1) := by decide +kernel
theorem dX1_take_37 : decode cX1_take 37 = .ok (.iload_n 1, 1) := by decide +kernel
theorem dX1_take_38 : decode cX1_take 38 = .ok (.invokevirtual 54, 3) := by decide +kernel
theorem dX1_take_41 : decode cX1_take 41 = .ok (.ifCond .ne 11, 3) := by decide +kernel
theorem dX1_take_44 : decode cX1_take 44 = .ok (.aload_n 0, 1) := by decide +kernel
theorem dX1_take_45 : decode cX1_take 45 = .ok (.iload_n 1, 1) := by decide +kernel
theorem dX1_take_46 : decode cX1_take 46 = .ok (.invokevirtual 57, 3) := by decide +kernel
theorem dX1_take_49 : decode cX1_take 49 = .ok (.ifCond .eq 7, 3) := by decide +kernel
theorem dX1_take_52 : decode cX1_take 52 = .ok (.iconst 1, 1) := by decide +kernel
theorem dX1_take_53 : decode cX1_take 53 = .ok (.goto 4, 3) := by decide +kernel
theorem dX1_take_56 : decode cX1_take 56 = .ok (.iconst 0, 1) := by decide +kernel
theorem dX1_take_57 : decode cX1_take 57 = .ok (.ireturn, 1) := by decide +kernel
theorem dX1_take_58 : decode cX1_take 58 = .ok (.aload_n 0, 1) := by decide +kernel
theorem dX1_take_59 : decode cX1_take 59 = .ok (.iload_n 1, 1) := by decide +kernel
theorem dX1_take_60 : decode cX1_take 60 = .ok (.invokevirtual 57, 3) := by decide +kernel
theorem dX1_take_63 : decode cX1_take 63 = .ok (.ireturn, 1) := by decide +kernel
theorem dX1_take_64 : decode cX1_take 64 = .ok (.aload_n 0, 1) := by decide +kernel
theorem dX1_take_65 : decode cX1_take 65 = .ok (.getfield 33, 3) := by decide +kernel
theorem dX1_take_68 : decode cX1_take 68 = .ok (.iconst 3, 1) := by decide +kernel
theorem dX1_take_69 : decode cX1_take 69 = .ok (.if_icmp .ge 11, 3) := by decide +kernel
theorem dX1_take_72 : decode cX1_take 72 = .ok (.aload_n 0, 1) := by decide +kernel
theorem dX1_take_73 : decode cX1_take 73 = .ok (.iload_n 1, 1) := by decide +kernel
theorem dX1_take_74 : decode cX1_take 74 = .ok (.invokevirtual 60, 3) := by decide +kernel
theorem dX1_take_77 : decode cX1_take 77 = .ok (.goto 8, 3) := by decide +kernel
theorem dX1_take_80 : decode cX1_take 80 = .ok (.aload_n 0, 1) := by decide +kernel
theorem dX1_take_81 : decode cX1_take 81 = .ok (.iload_n 1, 1) := by decide +kernel
theorem dX1_take_82 : decode cX1_take 82 = .ok (.invokevirtual 63, 3) := by decide +kernel
theorem dX1_take_85 : decode cX1_take 85 = .ok (.ireturn, 1) := by decide +kernel
theorem dX1_take_86 : decode cX1_take 86 = .ok (.aload_n 0, 1) := by decide +kernel
theorem dX1_take_87 : decode cX1_take 87 = .ok (.iload_n 1, 1) := by decide +kernel
theorem dX1_take_88 : decode cX1_take 88 = .ok (.invokevirtual 66, 3) := by decide +kernel
theorem dX1_take_91 : decode cX1_take 91 = .ok (.ireturn, 1) := by decide +kernel
theorem dX1_take_92 : decode cX1_take 92 = .ok (.iconst 0, 1) := by decide +kernel
theorem dX1_take_93 : decode cX1_take 93 = .ok (.ireturn, 1) := by decide +kernel
theorem dX1_takeMinus_0 : decode cX1_takeMinus 0 = .ok (.iload_n 1, 1) := by decide +kernel
theorem dX1_takeMinus_1 : decode cX1_takeMinus 1 = .ok (.bipush 45, 2) := by decide +kernel
theorem dX1_takeMinus_3 : decode cX1_takeMinus 3 = .ok (.if_icmp .eq 5, 3) := by decide +kernel
theorem dX1_takeMinus_6 : decode cX1_takeMinus 6 = .ok (.iconst 0, 1) := by decide +kernel
theorem dX1_takeMinus_7 : decode cX1_takeMinus 7 = .ok (.ireturn, 1) := by decide +kernel
theorem dX1_takeMinus_8 : decode cX1_takeMinus 8 = .ok (.aload_n 0, 1) := by decide +kernel
theorem dX1_takeMinus_9 : decode cX1_takeMinus 9 = .ok (.iconst 1, 1) := by decide +kernel
theorem dX1_takeMinus_10 : decode cX1_takeMinus 10 = .ok (.putfield 36, 3) := by decide +kernel
theorem dX1_takeMinus_13 : decode cX1_takeMinus 13 = .ok (.aload_n 0, 1) := by decide +kernel
theorem dX1_takeMinus_14 : decode cX1_takeMinus 14 = .ok (.iconst 1, 1) := by decide +kernel
theorem dX1_takeMinus_15 : decode cX1_takeMinus 15 = .ok (.putfield 30, 3) := by decide +kernel
theorem dX1_takeMinus_18 : decode cX1_takeMinus 18 = .ok (.iconst 1, 1) := by decide +kernel
theorem dX1_takeMinus_19 : decode cX1_takeMinus 19 = .ok (.ireturn, 1) := by decide +kernel
set_option maxRecDepth 20000 in
theorem ggX1_takeDigit_X4_put : GoodIn wsX1_takeDigit wsX4_put := goodIn_r _ [7] (by decide +kernel) (by decide +kernel)
set_option maxRecDepth 20000 in
theorem gX1_takeDigit_X4_put_n22 : GoodIn wsX1_takeDigit (wsX4_put) := ggX1_takeDigit_X4_put
theorem dX1_takeDigit_0 : decode cX1_takeDigit 0 = .ok (.iload_n 1, 1) := by decide +kernel
theorem dX1_takeDigit_1 : decode cX1_takeDigit 1 = .ok (.bipush 48, 2) := by decide +kernel
theorem dX1_takeDigit_3 : decode cX1_takeDigit 3 = .ok (.if_icmp .lt 9, 3) := by decide +kernel
theorem dX1_takeDigit_6 : decode cX1_takeDigit 6 = .ok (.iload_n 1, 1) := by decide +kernel
theorem dX1_takeDigit_7 : decode cX1_takeDigit 7 = .ok (.bipush 56, 2) := by decide +kernel
theorem dX1_takeDigit_9 : decode cX1_takeDigit 9 = .ok (.if_icmp .le 5, 3) := by decide +kernel
theorem dX1_takeDigit_12 : decode cX1_takeDigit 12 = .ok (.iconst 0, 1) := by decide +kernel
theorem dX1_takeDigit_13 : decode cX1_takeDigit 13 = .ok (.ireturn, 1) := by decide +kernel
theorem dX1_takeDigit_14 : decode cX1_takeDigit 14 = .ok (.aload_n 0, 1) := by decide +kernel
theorem dX1_takeDigit_15 : decode cX1_takeDigit 15 = .ok (.getfield 15, 3) := by decide +kernel
theorem dX1_takeDigit_18 : decode cX1_takeDigit 18 = .ok (.aload_n 0, 1) := by decide +kernel
theorem dX1_takeDigit_19 : decode cX1_takeDigit 19 = .ok (.getfield 33, 3) := by decide +kernel
theorem dX1_takeDigit_22 : decode cX1_takeDigit 22 = .ok (.aload_n 0, 1) := by decide +kernel
theorem dX1_takeDigit_23 : decode cX1_takeDigit 23 = .ok (.getfield 36, 3) := by decide +kernel
theorem dX1_takeDigit_26 : decode cX1_takeDigit 26 = .ok (.ifCond .eq 10, 3) := by decide +kernel
theorem dX1_takeDigit_29 : decode cX1_takeDigit 29 = .ok (.bipush 48, 2) := by decide +kernel
theorem dX1_takeDigit_31 : decode cX1_takeDigit 31 = .ok (.iload_n 1, 1) := by decide +kernel
theorem dX1_takeDigit_32 : decode cX1_takeDigit 32 = .ok (.isub, 1) := by decide +kernel
theorem dX1_takeDigit_33 : decode cX1_takeDigit 33 = .ok (.goto 7, 3) := by decide +kernel
theorem dX1_takeDigit_36 : decode cX1_takeDigit 36 = .ok (.iload_n 1, 1) := by decide +kernel
theorem dX1_takeDigit_37 : decode cX1_takeDigit 37 = .ok (.bipush 48, 2) := by decide +kernel
theorem dX1_takeDigit_39 : decode cX1_takeDigit 39 = .ok (.isub, 1) := by decide +kernel
theorem dX1_takeDigit_40 : decode cX1_takeDigit 40 = .ok (.invokestatic 22, 3) := by decide +kernel
theorem dX1_takeDigit_43 : decode cX1_takeDigit 43 = .ok (.aload_n 0, 1) := by decide +kernel
theorem dX1_takeDigit_44 : decode cX1_takeDigit 44 = .ok (.iconst 2, 1) := by decide +kernel
theorem dX1_takeDigit_45 : decode cX1_takeDigit 45 = .ok (.putfield 30, 3) := by decide +kernel
theorem dX1_takeDigit_48 : decode cX1_takeDigit 48 = .ok (.iconst 1, 1) := by decide +kernel
theorem dX1_takeDigit_49 : decode cX1_takeDigit 49 = .ok (.ireturn, 1) := by decide +kernel
theorem dX1_takeSeparator_0 : decode cX1_takeSeparator 0 = .ok (.iload_n 1, 1) := by decide +kernel
theorem dX1_takeSeparator_1 : decode cX1_takeSeparator 1 = .ok (.aload_n 0, 1) := by decide +kernel
theorem dX1_takeSeparator_2 : decode cX1_takeSeparator 2 = .ok (.getfield 33, 3) := by decide +kernel
theorem dX1_takeSeparator_5 : decode cX1_takeSeparator 5 = .ok (.iconst 1, 1) := by decide +kernel
theorem dX1_takeSeparator_6 : decode cX1_takeSeparator 6 = .ok (.if_icmp .ne 8, 3) := by decide +kernel
theorem dX1_takeSeparator_9 : decode cX1_takeSeparator 9 = .ok (.bipush 59, 2) := by decide +kernel
theorem dX1_takeSeparator_11 : decode cX1_takeSeparator 11 = .ok (.goto 5, 3) := by decide +kernel
theorem dX1_takeSeparator_14 : decode cX1_takeSeparator 14 = .ok (.bipush 44, 2) := by decide +kernel
theorem dX1_takeSeparator_16 : decode cX1_takeSeparator 16 = .ok (.if_icmp .eq 5, 3) := by decide +kernel
theorem dX1_takeSeparator_19 : decode cX1_takeSeparator 19 = .ok (.iconst 0, 1) := by decide +kernel
theorem dX1_takeSeparator_20 : decode cX1_takeSeparator 20 = .ok (.ireturn, 1) := by decide +kernel
theorem dX1_takeSeparator_21 : decode cX1_takeSeparator 21 = .ok (.aload_n 0, 1) := by decide +kernel
theorem dX1_takeSeparator_22 : decode cX1_takeSeparator 22 = .ok (.dup, 1) := by decide +kernel
theorem dX1_takeSeparator_23 : decode cX1_takeSeparator 23 = .ok (.getfield 33, 3) := by decide +kernel
theorem dX1_takeSeparator_26 : decode cX1_takeSeparator 26 = .ok (.iconst 1, 1) := by decide +kernel
theorem dX1_takeSeparator_27 : decode cX1_takeSeparator 27 = .ok (.iadd, 1) := by decide +kernel
theorem dX1_takeSeparator_28 : decode cX1_takeSeparator 28 = .ok (.putfield 33, 3) := by decide +kernel
theorem dX1_takeSeparator_31 : decode cX1_takeSeparator 31 = .ok (.aload_n 0, 1) := by decide +kernel
theorem dX1_takeSeparator_32 : decode cX1_takeSeparator 32 = .ok (.iconst 0, 1) := by decide +kernel
theorem dX1_takeSeparator_33 : decode cX1_takeSeparator 33 = .ok (.putfield 36, 3) := by decide +kernel
theorem dX1_takeSeparator_36 : decode cX1_takeSeparator 36 = .ok (.aload_n 0, 1) := by decide +kernel
theorem dX1_takeSeparator_37 : decode cX1_takeSeparator 37 = .ok (.iconst 0, 1) := by decide +kernel
theorem dX1_takeSeparator_38 : decode cX1_takeSeparator 38 = .ok (.putfield 30, 3) := by decide +kernel
theorem dX1_takeSeparator_41 : decode cX1_takeSeparator 41 = .ok (.iconst 1, 1) := by decide +kernel
theorem dX1_takeSeparator_42 : decode cX1_takeSeparator 42 = .ok (.ireturn, 1) := by decide +kernel
theorem dX1_takeLetter_0 : decode cX1_takeLetter 0 = .ok (.iload_n 1, 1) := by decide +kernel
theorem dX1_takeLetter_1 : decode cX1_takeLetter 1 = .ok (.lookupswitch 91 #[(98, 83), (100, 59), (108, 75), (114, 51), (115, 67)], 51) := by decide +kernel
theorem dX1_takeLetter_52 : decode cX1_takeLetter 52 = .ok (.aload_n 0, 1) := by decide +kernel
theorem dX1_takeLetter_53 : decode cX1_takeLetter 53 = .ok (.iconst 0, 1) := by decide +kernel
theorem dX1_takeLetter_54 : decode cX1_takeLetter 54 = .ok (.putfield 40, 3) := by decide +kernel
theorem dX1_takeLetter_57 : decode cX1_takeLetter 57 = .ok (.goto 37, 3) := by decide +kernel
theorem dX1_takeLetter_60 : decode cX1_takeLetter 60 = .ok (.aload_n 0, 1) := by decide +kernel
theorem dX1_takeLetter_61 : decode cX1_takeLetter 61 = .ok (.iconst 1, 1) := by decide +kernel
theorem dX1_takeLetter_62 : decode cX1_takeLetter 62 = .ok (.putfield 40, 3) := by decide +kernel
theorem dX1_takeLetter_65 : decode cX1_takeLetter 65 = .ok (.goto 29, 3) := by decide +kernel
theorem dX1_takeLetter_68 : decode cX1_takeLetter 68 = .ok (.aload_n 0, 1) := by decide +kernel
theorem dX1_takeLetter_69 : decode cX1_takeLetter 69 = .ok (.iconst 2, 1) := by decide +kernel
theorem dX1_takeLetter_70 : decode cX1_takeLetter 70 = .ok (.putfield 40, 3) := by decide +kernel
theorem dX1_takeLetter_73 : decode cX1_takeLetter 73 = .ok (.goto 21, 3) := by decide +kernel
theorem dX1_takeLetter_76 : decode cX1_takeLetter 76 = .ok (.aload_n 0, 1) := by decide +kernel
theorem dX1_takeLetter_77 : decode cX1_takeLetter 77 = .ok (.iconst 3, 1) := by decide +kernel
theorem dX1_takeLetter_78 : decode cX1_takeLetter 78 = .ok (.putfield 40, 3) := by decide +kernel
theorem dX1_takeLetter_81 : decode cX1_takeLetter 81 = .ok (.goto 13, 3) := by decide +kernel
theorem dX1_takeLetter_84 : decode cX1_takeLetter 84 = .ok (.aload_n 0, 1) := by decide +kernel
theorem dX1_takeLetter_85 : decode cX1_takeLetter 85 = .ok (.iconst 4, 1) := by decide +kernel
theorem dX1_takeLetter_86 : decode cX1_takeLetter 86 = .ok (.putfield 40, 3) := by decide +kernel
theorem dX1_takeLetter_89 : decode cX1_takeLetter 89 = .ok (.goto 5, 3) := by decide +kernel
theorem dX1_takeLetter_92 : decode cX1_takeLetter 92 = .ok (.iconst 0, 1) := by decide +kernel
theorem dX1_takeLetter_93 : decode cX1_takeLetter 93 = .ok (.ireturn, 1) := by decide +kernel
theorem dX1_takeLetter_94 : decode cX1_takeLetter 94 = .ok (.aload_n 0, 1) := by decide +kernel
theorem dX1_takeLetter_95 : decode cX1_takeLetter 95 = .ok (.iconst 3, 1) := by decide +kernel
theorem dX1_takeLetter_96 : decode cX1_takeLetter 96 = .ok (.putfield 30, 3) := by decide +kernel
theorem dX1_takeLetter_99 : decode cX1_takeLetter 99 = .ok (.iconst 1, 1) := by decide +kernel
theorem dX1_takeLetter_100 : decode cX1_takeLetter 100 = .ok (.ireturn, 1) := by decide +kernel
theorem dX1_takeStar_0 : decode cX1_takeStar 0 = .ok (.iload_n 1, 1) := by decide +kernel
theorem dX1_takeStar_1 : decode cX1_takeStar 1 = .ok (.bipush 42, 2) := by decide +kernel
theorem dX1_takeStar_3 : decode cX1_takeStar 3 = .ok (.if_icmp .eq 5, 3) := by decide +kernel
theorem dX1_takeStar_6 : decode cX1_takeStar 6 = .ok (.iconst 0, 1) := by decide +kernel
theorem dX1_takeStar_7 : decode cX1_takeStar 7 = .ok (.ireturn, 1) := by decide +kernel
theorem dX1_takeStar_8 : decode cX1_takeStar 8 = .ok (.aload_n 0, 1) := by decide +kernel
theorem dX1_takeStar_9 : decode cX1_takeStar 9 = .ok (.iconst 1, 1) := by decide +kernel
theorem dX1_takeStar_10 : decode cX1_takeStar 10 = .ok (.putfield 43, 3) := by decide +kernel
theorem dX1_takeStar_13 : decode cX1_takeStar 13 = .ok (.aload_n 0, 1) := by decide +kernel
theorem dX1_takeStar_14 : decode cX1_takeStar 14 = .ok (.iconst 4, 1) := by decide +kernel
theorem dX1_takeStar_15 : decode cX1_takeStar 15 = .ok (.putfield 30, 3) := by decide +kernel
theorem dX1_takeStar_18 : decode cX1_takeStar 18 = .ok (.iconst 1, 1) := by decide +kernel
theorem dX1_takeStar_19 : decode cX1_takeStar 19 = .ok (.ireturn, 1) := by decide +kernel
theorem dX2_init_0 : decode cX2_init 0 = .ok (.aload_n 0, 1) := by decide +kernel
theorem dX2_init_1 : decode cX2_init 1 = .ok (.invokespecial 3, 3) := by decide +kernel
theorem dX2_init_4 : decode cX2_init 4 = .ok (.aload_n 0, 1) := by decide +kernel
theorem dX2_init_5 : decode cX2_init 5 = .ok (.iconst 1, 1) := by decide +kernel
theorem dX2_init_6 : decode cX2_init 6 = .ok (.putfield 9, 3) := by decide +kernel
theorem dX2_init_9 : decode cX2_init 9 = .ok (.aload_n 0, 1) := by decide +kernel
theorem dX2_init_10 : decode cX2_init 10 = .ok (.iconst 0, 1) := by decide +kernel
theorem dX2_init_11 : decode cX2_init 11 = .ok (.putfield 15, 3) := by decide +kernel
theorem dX2_init_14 : decode cX2_init 14 = .ok (.aload_n 0, 1) := by decide +kernel
theorem dX2_init_15 : decode cX2_init 15 = .ok (.iconst 1, 1) := by decide +kernel
theorem dX2_init_16 : decode cX2_init 16 = .ok (.putfield 18, 3) := by decide +kernel
theorem dX2_init_19 : decode cX2_init 19 = .ok (.return_, 1) := by decide +kernel
theorem dX2_area_0 : decode cX2_area 0 = .ok (.aload_n 0, 1) := by decide +kernel
theorem dX2_area_1 : decode cX2_area 1 = .ok (.getfield 9, 3) := by decide +kernel
theorem dX2_area_4 : decode cX2_area 4 = .ok (.aload_n 0, 1) := by decide +kernel
theorem dX2_area_5 : decode cX2_area 5 = .ok (.getfield 18, 3) := by decide +kernel
theorem dX2_area_8 : decode cX2_area 8 = .ok (.imul, 1) := by decide +kernel
theorem dX2_area_9 : decode cX2_area 9 = .ok (.ireturn, 1) := by decide +kernel
set_option maxRecDepth 20000 in
theorem ggX2_property_X2_area : GoodIn wsX2_property wsX2_area := goodIn_r _ [8, 1, 3, 9, 10, 11] (by decide +kernel) (by decide +kernel)
set_option maxRecDepth 20000 in
theorem gX2_property_X2_area : GoodIn wsX2_property (wsV RX2 21 RX2 yX2_area wsX2_area) := goodIn_app (goodIn_of _ (by decide +kernel)) ggX2_property_X2_area
theorem dX2_property_0 : decode cX2_property 0 = .ok (.iload_n 1, 1) := by decide +kernel
theorem dX2_property_1 : decode cX2_property 1 = .ok (.tableswitch 42 0 2 #[27, 32, 37], 27) := by decide +kernel
theorem dX2_property_28 : decode cX2_property 28 = .ok (.aload_n 0, 1) := by decide +kernel
theorem dX2_property_29 : decode cX2_property 29 = .ok (.invokevirtual 21, 3) := by decide +kernel
theorem dX2_property_32 : decode cX2_property 32 = .ok (.ireturn, 1) := by decide +kernel
theorem dX2_property_33 : decode cX2_property 33 = .ok (.aload_n 0, 1) := by decide +kernel
theorem dX2_property_34 : decode cX2_property 34 = .ok (.getfield 9, 3) := by decide +kernel
theorem dX2_property_37 : decode cX2_property 37 = .ok (.ireturn, 1) := by decide +kernel
theorem dX2_property_38 : decode cX2_property 38 = .ok (.aload_n 0, 1) := by decide +kernel
theorem dX2_property_39 : decode cX2_property 39 = .ok (.getfield 15, 3) := by decide +kernel
theorem dX2_property_42 : decode cX2_property 42 = .ok (.ireturn, 1) := by decide +kernel
theorem dX2_property_43 : decode cX2_property 43 = .ok (.aload_n 0, 1) := by decide +kernel
theorem dX2_property_44 : decode cX2_property 44 = .ok (.getfield 18, 3) := by decide +kernel
theorem dX2_property_47 : decode cX2_property 47 = .ok (.ireturn, 1) := by decide +kernel
set_option maxRecDepth 20000 in
theorem ggX2_numberOf_X4_floorDiv : GoodIn wsX2_numberOf wsX4_floorDiv := goodIn_r _ [6, 7, 8, 9, 10] (by decide +kernel) (by decide +kernel)
set_option maxRecDepth 20000 in
theorem gX2_numberOf_X4_floorDiv_n25 : GoodIn wsX2_numberOf (wsX4_floorDiv) := ggX2_numberOf_X4_floorDiv
set_option maxRecDepth 20000 in
theorem ggX2_numberOf_X4_mod : GoodIn wsX2_numberOf wsX4_mod := goodIn_r _ [12, 13, 14, 9, 15] (by decide +kernel) (by decide +kernel)
set_option maxRecDepth 20000 in
theorem gX2_numberOf_X4_mod_n29 : GoodIn wsX2_numberOf (wsX4_mod) := ggX2_numberOf_X4_mod
theorem dX2_numberOf_0 : decode cX2_numberOf 0 = .ok (.iload_n 2, 1) := by decide +kernel
theorem dX2_numberOf_1 : decode cX2_numberOf 1 = .ok (.aload_n 0, 1) := by decide +kernel
theorem dX2_numberOf_2 : decode cX2_numberOf 2 = .ok (.getfield 18, 3) := by decide +kernel
theorem dX2_numberOf_5 : decode cX2_numberOf 5 = .ok (.invokestatic 25, 3) := by decide +kernel
theorem dX2_numberOf_8 : decode cX2_numberOf 8 = .ok (.istore_n 3, 1) := by decide +kernel
theorem dX2_numberOf_9 : decode cX2_numberOf 9 = .ok (.iload_n 2, 1) := by decide +kernel
theorem dX2_numberOf_10 : decode cX2_numberOf 10 = .ok (.iload_n 3, 1) := by decide +kernel
theorem dX2_numberOf_11 : decode cX2_numberOf 11 = .ok (.aload_n 0, 1) := by decide +kernel
theorem dX2_numberOf_12 : decode cX2_numberOf 12 = .ok (.getfield 18, 3) := by decide +kernel
theorem dX2_numberOf_15 : decode cX2_numberOf 15 = .ok (.imul, 1) := by decide +kernel
theorem dX2_numberOf_16 : decode cX2_numberOf 16 = .ok (.isub, 1) := by decide +kernel
theorem dX2_numberOf_17 : decode cX2_numberOf 17 = .ok (.aload_n 0, 1) := by decide +kernel
theorem dX2_numberOf_18 : decode cX2_numberOf 18 = .ok (.getfield 9, 3) := by decide +kernel
theorem dX2_numberOf_21 : decode cX2_numberOf 21 = .ok (.imul, 1) := by decide +kernel
theorem dX2_numberOf_22 : decode cX2_numberOf 22 = .ok (.iload_n 1, 1) := by decide +kernel
theorem dX2_numberOf_23 : decode cX2_numberOf 23 = .ok (.iload_n 3, 1) := by decide +kernel
theorem dX2_numberOf_24 : decode cX2_numberOf 24 = .ok (.aload_n 0, 1) := by decide +kernel
theorem dX2_numberOf_25 : decode cX2_numberOf 25 = .ok (.getfield 15, 3) := by decide +kernel
theorem dX2_numberOf_28 : decode cX2_numberOf 28 = .ok (.imul, 1) := by decide +kernel
theorem dX2_numberOf_29 : decode cX2_numberOf 29 = .ok (.isub, 1) := by decide +kernel
theorem dX2_numberOf_30 : decode cX2_numberOf 30 = .ok (.aload_n 0, 1) := by decide +kernel
theorem dX2_numberOf_31 : decode cX2_numberOf 31 = .ok (.getfield 9, 3) := by decide +kernel
theorem dX2_numberOf_34 : decode cX2_numberOf 34 = .ok (.invokestatic 29, 3) := by decide +kernel
theorem dX2_numberOf_37 : decode cX2_numberOf 37 = .ok (.iadd, 1) := by decide +kernel
theorem dX2_numberOf_38 : decode cX2_numberOf 38 = .ok (.ireturn, 1) := by decide +kernel
theorem dX2_become_0 : decode cX2_become 0 = .ok (.aload_n 0, 1) := by decide +kernel
theorem dX2_become_1 : decode cX2_become 1 = .ok (.aload_n 1, 1) := by decide +kernel
theorem dX2_become_2 : decode cX2_become 2 = .ok (.getfield 9, 3) := by decide +kernel
theorem dX2_become_5 : decode cX2_become 5 = .ok (.putfield 9, 3) := by decide +kernel
theorem dX2_become_8 : decode cX2_become 8 = .ok (.aload_n 0, 1) := by decide +kernel
theorem dX2_become_9 : decode cX2_become 9 = .ok (.aload_n 1, 1) := by decide +kernel
theorem dX2_become_10 : decode cX2_become 10 = .ok (.getfield 15, 3) := by decide +kernel
theorem dX2_become_13 : decode cX2_become 13 = .ok (.putfield 15, 3) := by decide +kernel
theorem dX2_become_16 : decode cX2_become 16 = .ok (.aload_n 0, 1) := by decide +kernel
theorem dX2_become_17 : decode cX2_become 17 = .ok (.aload_n 1, 1) := by decide +kernel
theorem dX2_become_18 : decode cX2_become 18 = .ok (.getfield 18, 3) := by decide +kernel
theorem dX2_become_21 : decode cX2_become 21 = .ok (.putfield 18, 3) := by decide +kernel
theorem dX2_become_24 : decode cX2_become 24 = .ok (.return_, 1) := by decide +kernel
set_option maxRecDepth 20000 in
theorem ggX2_span_X4_div : GoodIn wsX2_span wsX4_div := goodIn_r _ [10] (by decide +kernel) (by decide +kernel)
set_option maxRecDepth 20000 in
theorem gX2_span_X4_div_n32 : GoodIn wsX2_span (wsX4_div) := ggX2_span_X4_div
set_option maxRecDepth 20000 in
theorem ggX2_span_X4_gcd : GoodIn wsX2_span wsX4_gcd := goodIn_r _ [12, 13, 3, 4, 5] (by decide +kernel) (by decide +kernel)
set_option maxRecDepth 20000 in
theorem gX2_span_X4_gcd_n35 : GoodIn wsX2_span (wsX4_gcd) := ggX2_span_X4_gcd
set_option maxRecDepth 20000 in
theorem ggX2_span_X4_mod : GoodIn wsX2_span wsX4_mod := goodIn_r _ [15, 16, 17, 18, 19] (by decide +kernel) (by decide +kernel)
set_option maxRecDepth 20000 in
theorem gX2_span_X4_mod_n29 : GoodIn wsX2_span (wsX4_mod) := ggX2_span_X4_mod
theorem dX2_span_0 : decode cX2_span 0 = .ok (.iconst 0, 1) := by decide +kernel
theorem dX2_span_1 : decode cX2_span 1 = .ok (.istore 6, 2) := by decide +kernel
theorem dX2_span_3 : decode cX2_span 3 = .ok (.iload 6, 2) := by decide +kernel
theorem dX2_span_5 : decode cX2_span 5 = .ok (.sipush 1000, 3) := by decide +kernel
theorem dX2_span_8 : decode cX2_span 8 = .ok (.if_icmp .ge 51, 3) := by decide +kernel
theorem dX2_span_11 : decode cX2_span 11 = .ok (.iload 4, 2) := by decide +kernel
theorem dX2_span_13 : decode cX2_span 13 = .ok (.ifCond .eq 46, 3) := by decide +kernel
theorem dX2_span_16 : decode cX2_span 16 = .ok (.iload_n 2, 1) := by decide +kernel
theorem dX2_span_17 : decode cX2_span 17 = .ok (.iload 4, 2) := by decide +kernel
theorem dX2_span_19 : decode cX2_span 19 = .ok (.invokestatic 32, 3) := by decide +kernel
theorem dX2_span_22 : decode cX2_span 22 = .ok (.istore 7, 2) := by decide +kernel
theorem dX2_span_24 : decode cX2_span 24 = .ok (.iload_n 1, 1) := by decide +kernel
theorem dX2_span_25 : decode cX2_span 25 = .ok (.iload 7, 2) := by decide +kernel
theorem dX2_span_27 : decode cX2_span 27 = .ok (.iload_n 3, 1) := by decide +kernel
theorem dX2_span_28 : decode cX2_span 28 = .ok (.imul, 1) := by decide +kernel
theorem dX2_span_29 : decode cX2_span 29 = .ok (.isub, 1) := by decide +kernel
theorem dX2_span_30 : decode cX2_span 30 = .ok (.istore 8, 2) := by decide +kernel
theorem dX2_span_32 : decode cX2_span 32 = .ok (.iload_n 2, 1) := by decide +kernel
theorem dX2_span_33 : decode cX2_span 33 = .ok (.iload 7, 2) := by decide +kernel
theorem dX2_span_35 : decode cX2_span 35 = .ok (.iload 4, 2) := by decide +kernel
theorem dX2_span_37 : decode cX2_span 37 = .ok (.imul, 1) := by decide +kernel
theorem dX2_span_38 : decode cX2_span 38 = .ok (.isub, 1) := by decide +kernel
theorem dX2_span_39 : decode cX2_span 39 = .ok (.istore 9, 2) := by decide +kernel
theorem dX2_span_41 : decode cX2_span 41 = .ok (.iload_n 3, 1) := by decide +kernel
theorem dX2_span_42 : decode cX2_span 42 = .ok (.istore_n 1, 1) := by decide +kernel
theorem dX2_span_43 : decode cX2_span 43 = .ok (.iload 4, 2) := by decide +kernel
theorem dX2_span_45 : decode cX2_span 45 = .ok (.istore_n 2, 1) := by decide +kernel
theorem dX2_span_46 : decode cX2_span 46 = .ok (.iload 8, 2) := by decide +kernel
theorem dX2_span_48 : decode cX2_span 48 = .ok (.istore_n 3, 1) := by decide +kernel
theorem dX2_span_49 : decode cX2_span 49 = .ok (.iload 9, 2) := by decide +kernel
theorem dX2_span_51 : decode cX2_span 51 = .ok (.istore 4, 2) := by decide +kernel
theorem dX2_span_53 : decode cX2_span 53 = .ok (.iinc 6 1, 3) := by decide +kernel
theorem dX2_span_56 : decode cX2_span 56 = .ok (.goto (-53), 3) := by decide +kernel
theorem dX2_span_59 : decode cX2_span 59 = .ok (.aload_n 0, 1) := by decide +kernel
theorem dX2_span_60 : decode cX2_span 60 = .ok (.iload 5, 2) := by decide +kernel
theorem dX2_span_62 : decode cX2_span 62 = .ok (.iload_n 3, 1) := by decide +kernel
theorem dX2_span_63 : decode cX2_span 63 = .ok (.invokestatic 35, 3) := by decide +kernel
theorem dX2_span_66 : decode cX2_span 66 = .ok (.putfield 9, 3) := by decide +kernel
theorem dX2_span_69 : decode cX2_span 69 = .ok (.aload_n 0, 1) := by decide +kernel
theorem dX2_span_70 : decode cX2_span 70 = .ok (.iload_n 2, 1) := by decide +kernel
theorem dX2_span_71 : decode cX2_span 71 = .ok (.invokestatic 38, 3) := by decide +kernel
theorem dX2_span_74 : decode cX2_span 74 = .ok (.putfield 18, 3) := by decide +kernel
theorem dX2_span_77 : decode cX2_span 77 = .ok (.aload_n 0, 1) := by decide +kernel
theorem dX2_span_78 : decode cX2_span 78 = .ok (.iload_n 2, 1) := by decide +kernel
theorem dX2_span_79 : decode cX2_span 79 = .ok (.ifCond .ge 8, 3) := by decide +kernel
theorem dX2_span_82 : decode cX2_span 82 = .ok (.iload_n 1, 1) := by decide +kernel
theorem dX2_span_83 : decode cX2_span 83 = .ok (.ineg, 1) := by decide +kernel
theorem dX2_span_84 : decode cX2_span 84 = .ok (.goto 4, 3) := by decide +kernel
theorem dX2_span_87 : decode cX2_span 87 = .ok (.iload_n 1, 1) := by decide +kernel
theorem dX2_span_88 : decode cX2_span 88 = .ok (.aload_n 0, 1) := by decide +kernel
theorem dX2_span_89 : decode cX2_span 89 = .ok (.getfield 9, 3) := by decide +kernel
theorem dX2_span_92 : decode cX2_span 92 = .ok (.invokestatic 29, 3) := by decide +kernel
theorem dX2_span_95 : decode cX2_span 95 = .ok (.putfield 15, 3) := by decide +kernel
theorem dX2_span_98 : decode cX2_span 98 = .ok (.return_, 1) := by decide +kernel
set_option maxRecDepth 20000 in
theorem ggX2_addAll_X4_gcd : GoodIn wsX2_addAll wsX4_gcd := goodIn_r _ [6, 7, 8, 9, 10] (by decide +kernel) (by decide +kernel)
set_option maxRecDepth 20000 in
theorem gX2_addAll_X4_gcd_n35 : GoodIn wsX2_addAll (wsX4_gcd) := ggX2_addAll_X4_gcd
set_option maxRecDepth 20000 in
theorem ggX2_addAll_X2_span : GoodIn wsX2_addAll wsX2_span := goodIn_r _ [15, 3, 16, 8, 9, 10, 2, 1, 17, 5, 18, 4, 6, 7, 19, 20, 21, 22, 23, 24, 25, 26, 27] (by decide +kernel) (by decide +kernel)
set_option maxRecDepth 20000 in
theorem gX2_addAll_X2_span : GoodIn wsX2_addAll (wsV RX2 44 RX2 yX2_span wsX2_span) := goodIn_app (goodIn_of _ (by decide +kernel)) ggX2_addAll_X2_span
theorem dX2_addAll_0 : decode cX2_addAll 0 = .ok (.aload_n 0, 1) := by decide +kernel
theorem dX2_addAll_1 : decode cX2_addAll 1 = .ok (.aload_n 0, 1) := by decide +kernel
theorem dX2_addAll_2 : decode cX2_addAll 2 = .ok (.getfield 15, 3) := by decide +kernel
theorem dX2_addAll_5 : decode cX2_addAll 5 = .ok (.aload_n 0, 1) := by decide +kernel
theorem dX2_addAll_6 : decode cX2_addAll 6 = .ok (.getfield 18, 3) := by decide +kernel
theorem dX2_addAll_9 : decode cX2_addAll 9 = .ok (.aload_n 1, 1) := by decide +kernel
theorem dX2_addAll_10 : decode cX2_addAll 10 = .ok (.getfield 15, 3) := by decide +kernel
theorem dX2_addAll_13 : decode cX2_addAll 13 = .ok (.aload_n 1, 1) := by decide +kernel
theorem dX2_addAll_14 : decode cX2_addAll 14 = .ok (.getfield 18, 3) := by decide +kernel
theorem dX2_addAll_17 : decode cX2_addAll 17 = .ok (.aload_n 0, 1) := by decide +kernel
theorem dX2_addAll_18 : decode cX2_addAll 18 = .ok (.getfield 9, 3) := by decide +kernel
theorem dX2_addAll_21 : decode cX2_addAll 21 = .ok (.aload_n 1, 1) := by decide +kernel
theorem dX2_addAll_22 : decode cX2_addAll 22 = .ok (.getfield 9, 3) := by decide +kernel
theorem dX2_addAll_25 : decode cX2_addAll 25 = .ok (.invokestatic 35, 3) := by decide +kernel
theorem dX2_addAll_28 : decode cX2_addAll 28 = .ok (.invokevirtual 44, 3) := by decide +kernel
theorem dX2_addAll_31 : decode cX2_addAll 31 = .ok (.return_, 1) := by decide +kernel
set_option maxRecDepth 20000 in
theorem ggX2_keepCommon_X4_gcd : GoodIn wsX2_keepCommon wsX4_gcd := goodIn_r _ [6, 7, 8, 9, 10] (by decide +kernel) (by decide +kernel)
set_option maxRecDepth 20000 in
theorem gX2_keepCommon_X4_gcd_n35 : GoodIn wsX2_keepCommon (wsX4_gcd) := ggX2_keepCommon_X4_gcd
set_option maxRecDepth 20000 in
theorem ggX2_keepCommon_X4_div : GoodIn wsX2_keepCommon wsX4_div := goodIn_r _ [12] (by decide +kernel) (by decide +kernel)
set_option maxRecDepth 20000 in
theorem gX2_keepCommon_X4_div_n32 : GoodIn wsX2_keepCommon (wsX4_div) := ggX2_keepCommon_X4_div
set_option maxRecDepth 20000 in
theorem ggX2_keepCommon_X4_mod : GoodIn wsX2_keepCommon wsX4_mod := goodIn_r _ [14, 15, 16, 17, 18] (by decide +kernel) (by decide +kernel)
set_option maxRecDepth 20000 in
theorem gX2_keepCommon_X4_mod_n29 : GoodIn wsX2_keepCommon (wsX4_mod) := ggX2_keepCommon_X4_mod
theorem dX2_keepCommon_0 : decode cX2_keepCommon 0 = .ok (.aload_n 0, 1) := by decide +kernel
theorem dX2_keepCommon_1 : decode cX2_keepCommon 1 = .ok (.getfield 9, 3) := by decide +kernel
theorem dX2_keepCommon_4 : decode cX2_keepCommon 4 = .ok (.aload_n 1, 1) := by decide +kernel
theorem dX2_keepCommon_5 : decode cX2_keepCommon 5 = .ok (.getfield 9, 3) := by decide +kernel
theorem dX2_keepCommon_8 : decode cX2_keepCommon 8 = .ok (.invokestatic 35, 3) := by decide +kernel
theorem dX2_keepCommon_11 : decode cX2_keepCommon 11 = .ok (.istore_n 2, 1) := by decide +kernel
theorem dX2_keepCommon_12 : decode cX2_keepCommon 12 = .ok (.aload_n 0, 1) := by decide +kernel
theorem dX2_keepCommon_13 : decode cX2_keepCommon 13 = .ok (.getfield 18, 3) := by decide +kernel
theorem dX2_keepCommon_16 : decode cX2_keepCommon 16 = .ok (.aload_n 0, 1) := by decide +kernel
theorem dX2_keepCommon_17 : decode cX2_keepCommon 17 = .ok (.getfield 18, 3) := by decide +kernel
theorem dX2_keepCommon_20 : decode cX2_keepCommon 20 = .ok (.aload_n 1, 1) := by decide +kernel
theorem dX2_keepCommon_21 : decode cX2_keepCommon 21 = .ok (.getfield 18, 3) := by decide +kernel
theorem dX2_keepCommon_24 : decode cX2_keepCommon 24 = .ok (.invokestatic 35, 3) := by decide +kernel
theorem dX2_keepCommon_27 : decode cX2_keepCommon 27 = .ok (.invokestatic 32, 3) := by decide +kernel
theorem dX2_keepCommon_30 : decode cX2_keepCommon 30 = .ok (.aload_n 1, 1) := by decide +kernel
theorem dX2_keepCommon_31 : decode cX2_keepCommon 31 = .ok (.getfield 18, 3) := by decide +kernel
theorem dX2_keepCommon_34 : decode cX2_keepCommon 34 = .ok (.imul, 1) := by decide +kernel
theorem dX2_keepCommon_35 : decode cX2_keepCommon 35 = .ok (.istore_n 3, 1) := by decide +kernel
theorem dX2_keepCommon_36 : decode cX2_keepCommon 36 = .ok (.iload_n 3, 1) := by decide +kernel
theorem dX2_keepCommon_37 : decode cX2_keepCommon 37 = .ok (.aload_n 0, 1) := by decide +kernel
theorem dX2_keepCommon_38 : decode cX2_keepCommon 38 = .ok (.getfield 18, 3) := by decide +kernel
theorem dX2_keepCommon_41 : decode cX2_keepCommon 41 = .ok (.invokestatic 32, 3) := by decide +kernel
theorem dX2_keepCommon_44 : decode cX2_keepCommon 44 = .ok (.aload_n 0, 1) := by decide +kernel
theorem dX2_keepCommon_45 : decode cX2_keepCommon 45 = .ok (.getfield 15, 3) := by decide +kernel
theorem dX2_keepCommon_48 : decode cX2_keepCommon 48 = .ok (.imul, 1) := by decide +kernel
theorem dX2_keepCommon_49 : decode cX2_keepCommon 49 = .ok (.istore 4, 2) := by decide +kernel
theorem dX2_keepCommon_51 : decode cX2_keepCommon 51 = .ok (.iload_n 3, 1) := by decide +kernel
theorem dX2_keepCommon_52 : decode cX2_keepCommon 52 = .ok (.aload_n 1, 1) := by decide +kernel
theorem dX2_keepCommon_53 : decode cX2_keepCommon 53 = .ok (.getfield 18, 3) := by decide +kernel
theorem dX2_keepCommon_56 : decode cX2_keepCommon 56 = .ok (.invokestatic 32, 3) := by decide +kernel
theorem dX2_keepCommon_59 : decode cX2_keepCommon 59 = .ok (.aload_n 1, 1) := by decide +kernel
theorem dX2_keepCommon_60 : decode cX2_keepCommon 60 = .ok (.getfield 15, 3) := by decide +kernel
theorem dX2_keepCommon_63 : decode cX2_keepCommon 63 = .ok (.imul, 1) := by decide +kernel
theorem dX2_keepCommon_64 : decode cX2_keepCommon 64 = .ok (.istore 5, 2) := by decide +kernel
theorem dX2_keepCommon_66 : decode cX2_keepCommon 66 = .ok (.iload_n 2, 1) := by decide +kernel
theorem dX2_keepCommon_67 : decode cX2_keepCommon 67 = .ok (.iload_n 2, 1) := by decide +kernel
theorem dX2_keepCommon_68 : decode cX2_keepCommon 68 = .ok (.iload 4, 2) := by decide +kernel
theorem dX2_keepCommon_70 : decode cX2_keepCommon 70 = .ok (.iload 5, 2) := by decide +kernel
theorem dX2_keepCommon_72 : decode cX2_keepCommon 72 = .ok (.isub, 1) := by decide +kernel
theorem dX2_keepCommon_73 : decode cX2_keepCommon 73 = .ok (.invokestatic 35, 3) := by decide +kernel
theorem dX2_keepCommon_76 : decode cX2_keepCommon 76 = .ok (.invokestatic 32, 3) := by decide +kernel
theorem dX2_keepCommon_79 : decode cX2_keepCommon 79 = .ok (.istore 6, 2) := by decide +kernel
theorem dX2_keepCommon_81 : decode cX2_keepCommon 81 = .ok (.iload 6, 2) := by decide +kernel
theorem dX2_keepCommon_83 : decode cX2_keepCommon 83 = .ok (.iload 4, 2) := by decide +kernel
theorem dX2_keepCommon_85 : decode cX2_keepCommon 85 = .ok (.imul, 1) := by decide +kernel
theorem dX2_keepCommon_86 : decode cX2_keepCommon 86 = .ok (.aload_n 0, 1) := by decide +kernel
theorem dX2_keepCommon_87 : decode cX2_keepCommon 87 = .ok (.getfield 9, 3) := by decide +kernel
theorem dX2_keepCommon_90 : decode cX2_keepCommon 90 = .ok (.invokestatic 29, 3) := by decide +kernel
theorem dX2_keepCommon_93 : decode cX2_keepCommon 93 = .ok (.istore 7, 2) := by decide +kernel
theorem dX2_keepCommon_95 : decode cX2_keepCommon 95 = .ok (.iconst 0, 1) := by decide +kernel
theorem dX2_keepCommon_96 : decode cX2_keepCommon 96 = .ok (.istore 8, 2) := by decide +kernel
theorem dX2_keepCommon_98 : decode cX2_keepCommon 98 = .ok (.iload 8, 2) := by decide +kernel
theorem dX2_keepCommon_100 : decode cX2_keepCommon 100 = .ok (.aload_n 1, 1) := by decide +kernel
theorem dX2_keepCommon_101 : decode cX2_keepCommon 101 = .ok (.getfield 9, 3) := by decide +kernel
theorem dX2_keepCommon_104 : decode cX2_keepCommon 104 = .ok (.if_icmp .ge 36, 3) := by decide +kernel
theorem dX2_keepCommon_107 : decode cX2_keepCommon 107 = .ok (.iload 7, 2) := by decide +kernel
theorem dX2_keepCommon_109 : decode cX2_keepCommon 109 = .ok (.iload 6, 2) := by decide +kernel
theorem dX2_keepCommon_111 : decode cX2_keepCommon 111 = .ok (.iload 5, 2) := by decide +kernel
theorem dX2_keepCommon_113 : decode cX2_keepCommon 113 = .ok (.imul, 1) := by decide +kernel
theorem dX2_keepCommon_114 : decode cX2_keepCommon 114 = .ok (.isub, 1) := by decide +kernel
theorem dX2_keepCommon_115 : decode cX2_keepCommon 115 = .ok (.aload_n 1, 1) := by decide +kernel
theorem dX2_keepCommon_116 : decode cX2_keepCommon 116 = .ok (.getfield 9, 3) := by decide +kernel
theorem dX2_keepCommon_119 : decode cX2_keepCommon 119 = .ok (.invokestatic 29, 3) := by decide +kernel
theorem dX2_keepCommon_122 : decode cX2_keepCommon 122 = .ok (.ifCond .eq 18, 3) := by decide +kernel
theorem dX2_keepCommon_125 : decode cX2_keepCommon 125 = .ok (.iload 7, 2) := by decide +kernel
theorem dX2_keepCommon_127 : decode cX2_keepCommon 127 = .ok (.aload_n 0, 1) := by decide +kernel
theorem dX2_keepCommon_128 : decode cX2_keepCommon 128 = .ok (.getfield 9, 3) := by decide +kernel
theorem dX2_keepCommon_131 : decode cX2_keepCommon 131 = .ok (.iadd, 1) := by decide +kernel
theorem dX2_keepCommon_132 : decode cX2_keepCommon 132 = .ok (.istore 7, 2) := by decide +kernel
theorem dX2_keepCommon_134 : decode cX2_keepCommon 134 = .ok (.iinc 8 1, 3) := by decide +kernel
theorem dX2_keepCommon_137 : decode cX2_keepCommon 137 = .ok (.goto (-39), 3) := by decide +kernel
theorem dX2_keepCommon_140 : decode cX2_keepCommon 140 = .ok (.aload_n 0, 1) := by decide +kernel
theorem dX2_keepCommon_141 : decode cX2_keepCommon 141 = .ok (.iload 6, 2) := by decide +kernel
theorem dX2_keepCommon_143 : decode cX2_keepCommon 143 = .ok (.iload_n 3, 1) := by decide +kernel
theorem dX2_keepCommon_144 : decode cX2_keepCommon 144 = .ok (.imul, 1) := by decide +kernel
theorem dX2_keepCommon_145 : decode cX2_keepCommon 145 = .ok (.putfield 18, 3) := by decide +kernel
theorem dX2_keepCommon_148 : decode cX2_keepCommon 148 = .ok (.aload_n 0, 1) := by decide +kernel
theorem dX2_keepCommon_149 : decode cX2_keepCommon 149 = .ok (.aload_n 0, 1) := by decide +kernel
theorem dX2_keepCommon_150 : decode cX2_keepCommon 150 = .ok (.getfield 9, 3) := by decide +kernel
theorem dX2_keepCommon_153 : decode cX2_keepCommon 153 = .ok (.iload_n 2, 1) := by decide +kernel
theorem dX2_keepCommon_154 : decode cX2_keepCommon 154 = .ok (.invokestatic 32, 3) := by decide +kernel
theorem dX2_keepCommon_157 : decode cX2_keepCommon 157 = .ok (.aload_n 1, 1) := by decide +kernel
theorem dX2_keepCommon_158 : decode cX2_keepCommon 158 = .ok (.getfield 9, 3) := by decide +kernel
theorem dX2_keepCommon_161 : decode cX2_keepCommon 161 = .ok (.imul, 1) := by decide +kernel
theorem dX2_keepCommon_162 : decode cX2_keepCommon 162 = .ok (.putfield 9, 3) := by decide +kernel
theorem dX2_keepCommon_165 : decode cX2_keepCommon 165 = .ok (.aload_n 0, 1) := by decide +kernel
theorem dX2_keepCommon_166 : decode cX2_keepCommon 166 = .ok (.iload 7, 2) := by decide +kernel
theorem dX2_keepCommon_168 : decode cX2_keepCommon 168 = .ok (.aload_n 0, 1) := by decide +kernel
theorem dX2_keepCommon_169 : decode cX2_keepCommon 169 = .ok (.getfield 9, 3) := by decide +kernel
theorem dX2_keepCommon_172 : decode cX2_keepCommon 172 = .ok (.invokestatic 29, 3) := by decide +kernel
theorem dX2_keepCommon_175 : decode cX2_keepCommon 175 = .ok (.putfield 15, 3) := by decide +kernel
theorem dX2_keepCommon_178 : decode cX2_keepCommon 178 = .ok (.return_, 1) := by decide +kernel
set_option maxRecDepth 20000 in
theorem ggX3_init_X2_init : GoodIn wsX3_init wsX2_init := goodIn_r _ [16, 17, 2, 3, 18, 19, 20, 21, 22, 23] (by decide +kernel) (by decide +kernel)
set_option maxRecDepth 20000 in
theorem gX3_init_X2_init_n11 : GoodIn wsX3_init (wsX2_init) := ggX3_init_X2_init
theorem dX3_init_0 : decode cX3_init 0 = .ok (.aload_n 0, 1) := by decide +kernel
theorem dX3_init_1 : decode cX3_init 1 = .ok (.invokespecial 3, 3) := by decide +kernel
theorem dX3_init_4 : decode cX3_init 4 = .ok (.aload_n 0, 1) := by decide +kernel
theorem dX3_init_5 : decode cX3_init 5 = .ok (.new 9, 3) := by decide +kernel
theorem dX3_init_8 : decode cX3_init 8 = .ok (.dup, 1) := by decide +kernel
theorem dX3_init_9 : decode cX3_init 9 = .ok (.invokespecial 11, 3) := by decide +kernel
theorem dX3_init_12 : decode cX3_init 12 = .ok (.putfield 12, 3) := by decide +kernel
theorem dX3_init_15 : decode cX3_init 15 = .ok (.aload_n 0, 1) := by decide +kernel
theorem dX3_init_16 : decode cX3_init 16 = .ok (.bipush 64, 2) := by decide +kernel
theorem dX3_init_18 : decode cX3_init 18 = .ok (.newarray .int, 2) := by decide +kernel
theorem dX3_init_20 : decode cX3_init 20 = .ok (.putfield 18, 3) := by decide +kernel
theorem dX3_init_23 : decode cX3_init 23 = .ok (.aload_n 0, 1) := by decide +kernel
theorem dX3_init_24 : decode cX3_init 24 = .ok (.bipush 64, 2) := by decide +kernel
theorem dX3_init_26 : decode cX3_init 26 = .ok (.newarray .int, 2) := by decide +kernel
theorem dX3_init_28 : decode cX3_init 28 = .ok (.putfield 22, 3) := by decide +kernel
theorem dX3_init_31 : decode cX3_init 31 = .ok (.aload_n 0, 1) := by decide +kernel
theorem dX3_init_32 : decode cX3_init 32 = .ok (.bipush 64, 2) := by decide +kernel
theorem dX3_init_34 : decode cX3_init 34 = .ok (.newarray .int, 2) := by decide +kernel
theorem dX3_init_36 : decode cX3_init 36 = .ok (.putfield 25, 3) := by decide +kernel
theorem dX3_init_39 : decode cX3_init 39 = .ok (.aload_n 0, 1) := by decide +kernel
theorem dX3_init_40 : decode cX3_init 40 = .ok (.bipush 64, 2) := by decide +kernel
theorem dX3_init_42 : decode cX3_init 42 = .ok (.newarray .int, 2) := by decide +kernel
theorem dX3_init_44 : decode cX3_init 44 = .ok (.putfield 28, 3) := by decide +kernel
theorem dX3_init_47 : decode cX3_init 47 = .ok (.aload_n 0, 1) := by decide +kernel
theorem dX3_init_48 : decode cX3_init 48 = .ok (.bipush 64, 2) := by decide +kernel
theorem dX3_init_50 : decode cX3_init 50 = .ok (.newarray .int, 2) := by decide +kernel
theorem dX3_init_52 : decode cX3_init 52 = .ok (.putfield 31, 3) := by decide +kernel
theorem dX3_init_55 : decode cX3_init 55 = .ok (.aload_n 0, 1) := by decide +kernel
theorem dX3_init_56 : decode cX3_init 56 = .ok (.sipush 256, 3) := by decide +kernel
theorem dX3_init_59 : decode cX3_init 59 = .ok (.newarray .int, 2) := by decide +kernel
theorem dX3_init_61 : decode cX3_init 61 = .ok (.putfield 34, 3) := by decide +kernel
theorem dX3_init_64 : decode cX3_init 64 = .ok (.return_, 1) := by decide +kernel
theorem dX3_become_0 : decode cX3_become 0 = .ok (.aload_n 0, 1) := by decide +kernel
theorem dX3_become_1 : decode cX3_become 1 = .ok (.iload_n 1, 1) := by decide +kernel
theorem dX3_become_2 : decode cX3_become 2 = .ok (.putfield 37, 3) := by decide +kernel
theorem dX3_become_5 : decode cX3_become 5 = .ok (.aload_n 0, 1) := by decide +kernel
theorem dX3_become_6 : decode cX3_become 6 = .ok (.iload_n 2, 1) := by decide +kernel
theorem dX3_become_7 : decode cX3_become 7 = .ok (.putfield 41, 3) := by decide +kernel
theorem dX3_become_10 : decode cX3_become 10 = .ok (.aload_n 0, 1) := by decide +kernel
theorem dX3_become_11 : decode cX3_become 11 = .ok (.iload_n 3, 1) := by decide +kernel
theorem dX3_become_12 : decode cX3_become 12 = .ok (.putfield 44, 3) := by decide +kernel
theorem dX3_become_15 : decode cX3_become 15 = .ok (.aload_n 0, 1) := by decide +kernel
theorem dX3_become_16 : decode cX3_become 16 = .ok (.iload 4, 2) := by decide +kernel
theorem dX3_become_18 : decode cX3_become 18 = .ok (.putfield 47, 3) := by decide +kernel
theorem dX3_become_21 : decode cX3_become 21 = .ok (.aload_n 0, 1) := by decide +kernel
theorem dX3_become_22 : decode cX3_become 22 = .ok (.iload 5, 2) := by decide +kernel
theorem dX3_become_24 : decode cX3_become 24 = .ok (.putfield 50, 3) := by decide +kernel
theorem dX3_become_27 : decode cX3_become 27 = .ok (.aload_n 0, 1) := by decide +kernel
theorem dX3_become_28 : decode cX3_become 28 = .ok (.iload 6, 2) := by decide +kernel
theorem dX3_become_30 : decode cX3_become 30 = .ok (.putfield 53, 3) := by decide +kernel
theorem dX3_become_33 : decode cX3_become 33 = .ok (.aload_n 0, 1) := by decide +kernel
theorem dX3_become_34 : decode cX3_become 34 = .ok (.iconst 0, 1) := by decide +kernel
theorem dX3_become_35 : decode cX3_become 35 = .ok (.putfield 57, 3) := by decide +kernel
theorem dX3_become_38 : decode cX3_become 38 = .ok (.aload_n 0, 1) := by decide +kernel
theorem dX3_become_39 : decode cX3_become 39 = .ok (.iconst 1, 1) := by decide +kernel
theorem dX3_become_40 : decode cX3_become 40 = .ok (.putfield 60, 3) := by decide +kernel
theorem dX3_become_43 : decode cX3_become 43 = .ok (.return_, 1) := by decide +kernel
set_option maxRecDepth 20000 in
theorem ggX3_area_X2_area : GoodIn wsX3_area wsX2_area := goodIn_r _ [6, 7, 8, 24, 25, 26] (by decide +kernel) (by decide +kernel)
set_option maxRecDepth 20000 in
theorem gX3_area_X2_area : GoodIn wsX3_area (wsV RX3 63 RX2 yX2_area wsX2_area) := goodIn_app (goodIn_of _ (by decide +kernel)) ggX3_area_X2_area
theorem dX3_area_0 : decode cX3_area 0 = .ok (.aload_n 0, 1) := by decide +kernel
theorem dX3_area_1 : decode cX3_area 1 = .ok (.getfield 12, 3) := by decide +kernel
theorem dX3_area_4 : decode cX3_area 4 = .ok (.invokevirtual 63, 3) := by decide +kernel
theorem dX3_area_7 : decode cX3_area 7 = .ok (.ireturn, 1) := by decide +kernel
set_option maxRecDepth 20000 in
theorem ggX3_property_X2_property : GoodIn wsX3_property wsX2_property := goodIn_r _ [13, 14, 15, 16, 17, 18, 19, 12, 20, 36, 37, 38] (by decide +kernel) (by decide +kernel)
set_option maxRecDepth 20000 in
theorem gX3_property_X2_property : GoodIn wsX3_property (wsV RX3 67 RX2 yX2_property wsX2_property) := goodIn_app (goodIn_of _ (by decide +kernel)) ggX3_property_X2_property
theorem dX3_property_0 : decode cX3_property 0 = .ok (.iload_n 1, 1) := by decide +kernel
theorem dX3_property_1 : decode cX3_property 1 = .ok (.tableswitch 102 0 10 #[59, 64, 69, 74, 102, 102, 102, 102, 79, 84, 97], 59) := by decide +kernel
theorem dX3_property_60 : decode cX3_property 60 = .ok (.aload_n 0, 1) := by decide +kernel
theorem dX3_property_61 : decode cX3_property 61 = .ok (.getfield 37, 3) := by decide +kernel
theorem dX3_property_64 : decode cX3_property 64 = .ok (.ireturn, 1) := by decide +kernel
theorem dX3_property_65 : decode cX3_property 65 = .ok (.aload_n 0, 1) := by decide +kernel
theorem dX3_property_66 : decode cX3_property 66 = .ok (.getfield 41, 3) := by decide +kernel
theorem dX3_property_69 : decode cX3_property 69 = .ok (.ireturn, 1) := by decide +kernel
theorem dX3_property_70 : decode cX3_property 70 = .ok (.aload_n 0, 1) := by decide +kernel
theorem dX3_property_71 : decode cX3_property 71 = .ok (.getfield 44, 3) := by decide +kernel
theorem dX3_property_74 : decode cX3_property 74 = .ok (.ireturn, 1) := by decide +kernel
theorem dX3_property_75 : decode cX3_property 75 = .ok (.aload_n 0, 1) := by decide +kernel
theorem dX3_property_76 : decode cX3_property 76 = .ok (.getfield 47, 3) := by decide +kernel
theorem dX3_property_79 : decode cX3_property 79 = .ok (.ireturn, 1) := by decide +kernel
theorem dX3_property_80 : decode cX3_property 80 = .ok (.aload_n 0, 1) := by decide +kernel
theorem dX3_property_81 : decode cX3_property 81 = .ok (.getfield 50, 3) := by decide +kernel
theorem dX3_property_84 : decode cX3_property 84 = .ok (.ireturn, 1) := by decide +kernel
theorem dX3_property_85 : decode cX3_property 85 = .ok (.aload_n 0, 1) := by decide +kernel
theorem dX3_property_86 : decode cX3_property 86 = .ok (.getfield 53, 3) := by decide +kernel
theorem dX3_property_89 : decode cX3_property 89 = .ok (.ifCond .eq 7, 3) := by decide +kernel
theorem dX3_property_92 : decode cX3_property 92 = .ok (.iconst 1, 1) := by decide +kernel
theorem dX3_property_93 : decode cX3_property 93 = .ok (.goto 4, 3) := by decide +kernel
theorem dX3_property_96 : decode cX3_property 96 = .ok (.iconst 0, 1) := by decide +kernel
theorem dX3_property_97 : decode cX3_property 97 = .ok (.ireturn, 1) := by decide +kernel
theorem dX3_property_98 : decode cX3_property 98 = .ok (.aload_n 0, 1) := by decide +kernel
theorem dX3_property_99 : decode cX3_property 99 = .ok (.getfield 57, 3) := by decide +kernel
theorem dX3_property_102 : decode cX3_property 102 = .ok (.ireturn, 1) := by decide +kernel
theorem dX3_property_103 : decode cX3_property 103 = .ok (.aload_n 0, 1) := by decide +kernel
theorem dX3_property_104 : decode cX3_property 104 = .ok (.getfield 12, 3) := by decide +kernel
theorem dX3_property_107 : decode cX3_property 107 = .ok (.iload_n 1, 1) := by decide +kernel
theorem dX3_property_108 : decode cX3_property 108 = .ok (.iconst 4, 1) := by decide +kernel
theorem dX3_property_109 : decode cX3_property 109 = .ok (.isub, 1) := by decide +kernel
theorem dX3_property_110 : decode cX3_property 110 = .ok (.invokevirtual 67, 3) := by decide +kernel
theorem dX3_property_113 : decode cX3_property 113 = .ok (.ireturn, 1) := by decide +kernel
set_option maxRecDepth 20000 in
theorem ggX3_hasPlace_X3_area : GoodIn wsX3_hasPlace wsX3_area := goodIn_r _ [6, 7, 8, 9, 10, 11, 12, 13, 14, 15, 16, 17, 18, 19, 20, 21, 22, 23, 24, 25, 26, 27, 28, 29, 30, 31, 32] (by decide +kernel) (by decide +kernel)
set_option maxRecDepth 20000 in
theorem gX3_hasPlace_X3_area : GoodIn wsX3_hasPlace (wsV RX3 71 RX3 yX3_area wsX3_area) := goodIn_app (goodIn_of _ (by decide +kernel)) ggX3_hasPlace_X3_area
theorem dX3_hasPlace_0 : decode cX3_hasPlace 0 = .ok (.aload_n 0, 1) := by decide +kernel
theorem dX3_hasPlace_1 : decode cX3_hasPlace 1 = .ok (.getfield 60, 3) := by decide +kernel
theorem dX3_hasPlace_4 : decode cX3_hasPlace 4 = .ok (.ifCond .eq 19, 3) := by decide +kernel
theorem dX3_hasPlace_7 : decode cX3_hasPlace 7 = .ok (.iload_n 1, 1) := by decide +kernel
theorem dX3_hasPlace_8 : decode cX3_hasPlace 8 = .ok (.ifCond .lt 15, 3) := by decide +kernel
theorem dX3_hasPlace_11 : decode cX3_hasPlace 11 = .ok (.iload_n 1, 1) := by decide +kernel
theorem dX3_hasPlace_12 : decode cX3_hasPlace 12 = .ok (.aload_n 0, 1) := by decide +kernel
theorem dX3_hasPlace_13 : decode cX3_hasPlace 13 = .ok (.invokevirtual 71, 3) := by decide +kernel
theorem dX3_hasPlace_16 : decode cX3_hasPlace 16 = .ok (.if_icmp .ge 7, 3) := by decide +kernel
theorem dX3_hasPlace_19 : decode cX3_hasPlace 19 = .ok (.iconst 1, 1) := by decide +kernel
theorem dX3_hasPlace_20 : decode cX3_hasPlace 20 = .ok (.goto 4, 3) := by decide +kernel
theorem dX3_hasPlace_23 : decode cX3_hasPlace 23 = .ok (.iconst 0, 1) := by decide +kernel
theorem dX3_hasPlace_24 : decode cX3_hasPlace 24 = .ok (.ireturn, 1) := by decide +kernel
set_option maxRecDepth 20000 in
theorem ggX3_inks_X2_numberOf : GoodIn wsX3_inks wsX2_numberOf := goodIn_r _ [7, 8, 9, 10, 11, 12, 13, 14, 15, 16, 17, 18, 19, 20, 21, 22, 46, 47, 48] (by decide +kernel) (by decide +kernel)
set_option maxRecDepth 20000 in
theorem gX3_inks_X2_numberOf : GoodIn wsX3_inks (wsV RX3 72 RX2 yX2_numberOf wsX2_numberOf) := goodIn_app (goodIn_of _ (by decide +kernel)) ggX3_inks_X2_numberOf
set_option maxRecDepth 20000 in
theorem ggX3_inks_X3_inksPlace : GoodIn wsX3_inks wsX3_inksPlace := goodIn_r _ [27, 28, 29, 12, 30, 31, 32, 33, 34, 35, 36, 37, 38, 39, 40, 41, 42, 43, 44, 45] (by decide +kernel) (by decide +kernel)
set_option maxRecDepth 20000 in
theorem gX3_inks_X3_inksPlace : GoodIn wsX3_inks (wsV RX3 76 RX3 yX3_inksPlace wsX3_inksPlace) := goodIn_app (goodIn_of _ (by decide +kernel)) ggX3_inks_X3_inksPlace
theorem dX3_inks_0 : decode cX3_inks 0 = .ok (.aload_n 0, 1) := by decide +kernel
theorem dX3_inks_1 : decode cX3_inks 1 = .ok (.aload_n 0, 1) := by decide +kernel
theorem dX3_inks_2 : decode cX3_inks 2 = .ok (.getfield 12, 3) := by decide +kernel
theorem dX3_inks_5 : decode cX3_inks 5 = .ok (.iload_n 1, 1) := by decide +kernel
theorem dX3_inks_6 : decode cX3_inks 6 = .ok (.iload_n 2, 1) := by decide +kernel
theorem dX3_inks_7 : decode cX3_inks 7 = .ok (.invokevirtual 72, 3) := by decide +kernel
theorem dX3_inks_10 : decode cX3_inks 10 = .ok (.aload_n 0, 1) := by decide +kernel
theorem dX3_inks_11 : decode cX3_inks 11 = .ok (.getfield 57, 3) := by decide +kernel
theorem dX3_inks_14 : decode cX3_inks 14 = .ok (.invokevirtual 76, 3) := by decide +kernel
theorem dX3_inks_17 : decode cX3_inks 17 = .ok (.ireturn, 1) := by decide +kernel
set_option maxRecDepth 20000 in
theorem ggX3_inksPlace_X4_at : GoodIn wsX3_inksPlace wsX4_at := goodIn_r _ [4] (by decide +kernel) (by decide +kernel)
set_option maxRecDepth 20000 in
theorem gX3_inksPlace_X4_at_n80 : GoodIn wsX3_inksPlace (wsX4_at) := ggX3_inksPlace_X4_at
theorem dX3_inksPlace_0 : decode cX3_inksPlace 0 = .ok (.aload_n 0, 1) := by decide +kernel
theorem dX3_inksPlace_1 : decode cX3_inksPlace 1 = .ok (.getfield 25, 3) := by decide +kernel
theorem dX3_inksPlace_4 : decode cX3_inksPlace 4 = .ok (.iload_n 1, 1) := by decide +kernel
theorem dX3_inksPlace_5 : decode cX3_inksPlace 5 = .ok (.invokestatic 80, 3) := by decide +kernel
theorem dX3_inksPlace_8 : decode cX3_inksPlace 8 = .ok (.iload_n 2, 1) := by decide +kernel
theorem dX3_inksPlace_9 : decode cX3_inksPlace 9 = .ok (.if_icmp .ge 7, 3) := by decide +kernel
theorem dX3_inksPlace_12 : decode cX3_inksPlace 12 = .ok (.iconst 1, 1) := by decide +kernel
theorem dX3_inksPlace_13 : decode cX3_inksPlace 13 = .ok (.goto 4, 3) := by decide +kernel
theorem dX3_inksPlace_16 : decode cX3_inksPlace 16 = .ok (.iconst 0, 1) := by decide +kernel
theorem dX3_inksPlace_17 : decode cX3_inksPlace 17 = .ok (.ireturn, 1) := by decide +kernel
set_option maxRecDepth 20000 in
theorem ggX3_neighbor_X4_at : GoodIn wsX3_neighbor wsX4_at := goodIn_r _ [4] (by decide +kernel) (by decide +kernel)
set_option maxRecDepth 20000 in
theorem gX3_neighbor_X4_at_n80 : GoodIn wsX3_neighbor (wsX4_at) := ggX3_neighbor_X4_at
theorem dX3_neighbor_0 : decode cX3_neighbor 0 = .ok (.aload_n 0, 1) := by decide +kernel
theorem dX3_neighbor_1 : decode cX3_neighbor 1 = .ok (.getfield 34, 3) := by decide +kernel
theorem dX3_neighbor_4 : decode cX3_neighbor 4 = .ok (.iconst 4, 1) := by decide +kernel
theorem dX3_neighbor_5 : decode cX3_neighbor 5 = .ok (.iload_n 1, 1) := by decide +kernel
theorem dX3_neighbor_6 : decode cX3_neighbor 6 = .ok (.imul, 1) := by decide +kernel
theorem dX3_neighbor_7 : decode cX3_neighbor 7 = .ok (.iload_n 2, 1) := by decide +kernel
theorem dX3_neighbor_8 : decode cX3_neighbor 8 = .ok (.iadd, 1) := by decide +kernel
theorem dX3_neighbor_9 : decode cX3_neighbor 9 = .ok (.invokestatic 80, 3) := by decide +kernel
theorem dX3_neighbor_12 : decode cX3_neighbor 12 = .ok (.ireturn, 1) := by decide +kernel
theorem dX3_turnVectors_0 : decode cX3_turnVectors 0 = .ok (.aload_n 0, 1) := by decide +kernel
theorem dX3_turnVectors_1 : decode cX3_turnVectors 1 = .ok (.getfield 37, 3) := by decide +kernel
theorem dX3_turnVectors_4 : decode cX3_turnVectors 4 = .ok (.istore_n 2, 1) := by decide +kernel
theorem dX3_turnVectors_5 : decode cX3_turnVectors 5 = .ok (.aload_n 0, 1) := by decide +kernel
theorem dX3_turnVectors_6 : decode cX3_turnVectors 6 = .ok (.getfield 44, 3) := by decide +kernel
theorem dX3_turnVectors_9 : decode cX3_turnVectors 9 = .ok (.istore_n 3, 1) := by decide +kernel
theorem dX3_turnVectors_10 : decode cX3_turnVectors 10 = .ok (.iload_n 1, 1) := by decide +kernel
theorem dX3_turnVectors_11 : decode cX3_turnVectors 11 = .ok (.ifCond .ne 34, 3) := by decide +kernel
theorem dX3_turnVectors_14 : decode cX3_turnVectors 14 = .ok (.aload_n 0, 1) := by decide +kernel
theorem dX3_turnVectors_15 : decode cX3_turnVectors 15 = .ok (.aload_n 0, 1) := by decide +kernel
theorem dX3_turnVectors_16 : decode cX3_turnVectors 16 = .ok (.getfield 41, 3) := by decide +kernel
theorem dX3_turnVectors_19 : decode cX3_turnVectors 19 = .ok (.ineg, 1) := by decide +kernel
theorem dX3_turnVectors_20 : decode cX3_turnVectors 20 = .ok (.putfield 37, 3) := by decide +kernel
theorem dX3_turnVectors_23 : decode cX3_turnVectors 23 = .ok (.aload_n 0, 1) := by decide +kernel
theorem dX3_turnVectors_24 : decode cX3_turnVectors 24 = .ok (.iload_n 2, 1) := by decide +kernel
theorem dX3_turnVectors_25 : decode cX3_turnVectors 25 = .ok (.putfield 41, 3) := by decide +kernel
theorem dX3_turnVectors_28 : decode cX3_turnVectors 28 = .ok (.aload_n 0, 1) := by decide +kernel
theorem dX3_turnVectors_29 : decode cX3_turnVectors 29 = .ok (.aload_n 0, 1) := by decide +kernel
theorem dX3_turnVectors_30 : decode cX3_turnVectors 30 = .ok (.getfield 47, 3) := by decide +kernel
theorem dX3_turnVectors_33 : decode cX3_turnVectors 33 = .ok (.ineg, 1) := by decide +kernel
theorem dX3_turnVectors_34 : decode cX3_turnVectors 34 = .ok (.putfield 44, 3) := by decide +kernel
theorem dX3_turnVectors_37 : decode cX3_turnVectors 37 = .ok (.aload_n 0, 1) := by decide +kernel
theorem dX3_turnVectors_38 : decode cX3_turnVectors 38 = .ok (.iload_n 3, 1) := by decide +kernel
theorem dX3_turnVectors_39 : decode cX3_turnVectors 39 = .ok (.putfield 47, 3) := by decide +kernel
theorem dX3_turnVectors_42 : decode cX3_turnVectors 42 = .ok (.goto 55, 3) := by decide +kernel
theorem dX3_turnVectors_45 : decode cX3_turnVectors 45 = .ok (.iload_n 1, 1) := by decide +kernel
theorem dX3_turnVectors_46 : decode cX3_turnVectors 46 = .ok (.iconst 1, 1) := by decide +kernel
theorem dX3_turnVectors_47 : decode cX3_turnVectors 47 = .ok (.if_icmp .ne 24, 3) := by decide +kernel
theorem dX3_turnVectors_50 : decode cX3_turnVectors 50 = .ok (.aload_n 0, 1) := by decide +kernel
theorem dX3_turnVectors_51 : decode cX3_turnVectors 51 = .ok (.aload_n 0, 1) := by decide +kernel
theorem dX3_turnVectors_52 : decode cX3_turnVectors 52 = .ok (.getfield 37, 3) := by decide +kernel
theorem dX3_turnVectors_55 : decode cX3_turnVectors 55 = .ok (.ineg, 1) := by decide +kernel
theorem dX3_turnVectors_56 : decode cX3_turnVectors 56 = .ok (.putfield 37, 3) := by decide +kernel
theorem dX3_turnVectors_59 : decode cX3_turnVectors 59 = .ok (.aload_n 0, 1) := by decide +kernel
theorem dX3_turnVectors_60 : decode cX3_turnVectors 60 = .ok (.aload_n 0, 1) := by decide +kernel
theorem dX3_turnVectors_61 : decode cX3_turnVectors 61 = .ok (.getfield 44, 3) := by decide +kernel
theorem dX3_turnVectors_64 : decode cX3_turnVectors 64 = .ok (.ineg, 1) := by decide +kernel
theorem dX3_turnVectors_65 : decode cX3_turnVectors 65 = .ok (.putfield 44, 3) := by decide +kernel
theorem dX3_turnVectors_68 : decode cX3_turnVectors 68 = .ok (.goto 29, 3) := by decide +kernel
theorem dX3_turnVectors_71 : decode cX3_turnVectors 71 = .ok (.aload_n 0, 1) := by decide +kernel
theorem dX3_turnVectors_72 : decode cX3_turnVectors 72 = .ok (.aload_n 0, 1) := by decide +kernel
theorem dX3_turnVectors_73 : decode cX3_turnVectors 73 = .ok (.getfield 41, 3) := by decide +kernel
theorem dX3_turnVectors_76 : decode cX3_turnVectors 76 = .ok (.putfield 37, 3) := by decide +kernel
theorem dX3_turnVectors_79 : decode cX3_turnVectors 79 = .ok (.aload_n 0, 1) := by decide +kernel
theorem dX3_turnVectors_80 : decode cX3_turnVectors 80 = .ok (.iload_n 2, 1) := by decide +kernel
theorem dX3_turnVectors_81 : decode cX3_turnVectors 81 = .ok (.putfield 41, 3) := by decide +kernel
theorem dX3_turnVectors_84 : decode cX3_turnVectors 84 = .ok (.aload_n 0, 1) := by decide +kernel
theorem dX3_turnVectors_85 : decode cX3_turnVectors 85 = .ok (.aload_n 0, 1) := by decide +kernel
theorem dX3_turnVectors_86 : decode cX3_turnVectors 86 = .ok (.getfield 47, 3) := by decide +kernel
theorem dX3_turnVectors_89 : decode cX3_turnVectors 89 = .ok (.putfield 44, 3) := by decide +kernel
theorem dX3_turnVectors_92 : decode cX3_turnVectors 92 = .ok (.aload_n 0, 1) := by decide +kernel
theorem dX3_turnVectors_93 : decode cX3_turnVectors 93 = .ok (.iload_n 3, 1) := by decide +kernel
theorem dX3_turnVectors_94 : decode cX3_turnVectors 94 = .ok (.putfield 47, 3) := by decide +kernel
theorem dX3_turnVectors_97 : decode cX3_turnVectors 97 = .ok (.return_, 1) := by decide +kernel
set_option maxRecDepth 20000 in
theorem ggX3_shortenVectors_X3_exchangeVectors : GoodIn wsX3_shortenVectors wsX3_exchangeVectors := goodIn_r _ [9, 3, 4, 1, 2, 20, 21, 22, 23, 24, 25, 26, 27, 28, 29, 30, 31, 32, 33, 34] (by decide +kernel) (by decide +kernel)
set_option maxRecDepth 20000 in
theorem gX3_shortenVectors_X3_exchangeVectors : GoodIn wsX3_shortenVectors (wsV RX3 84 RX3 yX3_exchangeVectors wsX3_exchangeVectors) := goodIn_app (goodIn_of _ (by decide +kernel)) ggX3_shortenVectors_X3_exchangeVectors
set_option maxRecDepth 20000 in
theorem ggX3_shortenVectors_X3_nearestRatio : GoodIn wsX3_shortenVectors wsX3_nearestRatio := goodIn_r _ [12, 13, 14, 15, 16, 17, 18, 19] (by decide +kernel) (by decide +kernel)
set_option maxRecDepth 20000 in
theorem gX3_shortenVectors_X3_nearestRatio : GoodIn wsX3_shortenVectors (va_wsS RX3 87 yX3_nearestRatio wsX3_nearestRatio) := goodIn_app (goodIn_of _ (by decide +kernel)) ggX3_shortenVectors_X3_nearestRatio
theorem dX3_shortenVectors_0 : decode cX3_shortenVectors 0 = .ok (.iconst 0, 1) := by decide +kernel
theorem dX3_shortenVectors_1 : decode cX3_shortenVectors 1 = .ok (.istore_n 1, 1) := by decide +kernel
theorem dX3_shortenVectors_2 : decode cX3_shortenVectors 2 = .ok (.iconst 0, 1) := by decide +kernel
theorem dX3_shortenVectors_3 : decode cX3_shortenVectors 3 = .ok (.istore_n 2, 1) := by decide +kernel
theorem dX3_shortenVectors_4 : decode cX3_shortenVectors 4 = .ok (.iload_n 2, 1) := by decide +kernel
theorem dX3_shortenVectors_5 : decode cX3_shortenVectors 5 = .ok (.sipush 1000, 3) := by decide +kernel
theorem dX3_shortenVectors_8 : decode cX3_shortenVectors 8 = .ok (.if_icmp .ge 135, 3) := by decide +kernel
theorem dX3_shortenVectors_11 : decode cX3_shortenVectors 11 = .ok (.aload_n 0, 1) := by decide +kernel
theorem dX3_shortenVectors_12 : decode cX3_shortenVectors 12 = .ok (.getfield 44, 3) := by decide +kernel
theorem dX3_shortenVectors_15 : decode cX3_shortenVectors 15 = .ok (.aload_n 0, 1) := by decide +kernel
theorem dX3_shortenVectors_16 : decode cX3_shortenVectors 16 = .ok (.getfield 44, 3) := by decide +kernel
theorem dX3_shortenVectors_19 : decode cX3_shortenVectors 19 = .ok (.imul, 1) := by decide +kernel
theorem dX3_shortenVectors_20 : decode cX3_shortenVectors 20 = .ok (.aload_n 0, 1) := by decide +kernel
theorem dX3_shortenVectors_21 : decode cX3_shortenVectors 21 = .ok (.getfield 47, 3) := by decide +kernel
theorem dX3_shortenVectors_24 : decode cX3_shortenVectors 24 = .ok (.aload_n 0, 1) := by decide +kernel
theorem dX3_shortenVectors_25 : decode cX3_shortenVectors 25 = .ok (.getfield 47, 3) := by decide +kernel
theorem dX3_shortenVectors_28 : decode cX3_shortenVectors 28 = .ok (.imul, 1) := by decide +kernel
theorem dX3_shortenVectors_29 : decode cX3_shortenVectors 29 = .ok (.iadd, 1) := by decide +kernel
theorem dX3_shortenVectors_30 : decode cX3_shortenVectors 30 = .ok (.aload_n 0, 1) := by decide +kernel
theorem dX3_shortenVectors_31 : decode cX3_shortenVectors 31 = .ok (.getfield 37, 3) := by decide +kernel
theorem dX3_shortenVectors_34 : decode cX3_shortenVectors 34 = .ok (.aload_n 0, 1) := by decide +kernel
theorem dX3_shortenVectors_35 : decode cX3_shortenVectors 35 = .ok (.getfield 37, 3) := by decide +kernel
theorem dX3_shortenVectors_38 : decode cX3_shortenVectors 38 = .ok (.imul, 1) := by decide +kernel
theorem dX3_shortenVectors_39 : decode cX3_shortenVectors 39 = .ok (.aload_n 0, 1) := by decide +kernel
theorem dX3_shortenVectors_40 : decode cX3_shortenVectors 40 = .ok (.getfield 41, 3) := by decide +kernel
theorem dX3_shortenVectors_43 : decode cX3_shortenVectors 43 = .ok (.aload_n 0, 1) := by decide +kernel
theorem dX3_shortenVectors_44 : decode cX3_shortenVectors 44 = .ok (.getfield 41, 3) := by decide +kernel
theorem dX3_shortenVectors_47 : decode cX3_shortenVectors 47 = .ok (.imul, 1) := by decide +kernel
theorem dX3_shortenVectors_48 : decode cX3_shortenVectors 48 = .ok (.iadd, 1) := by decide +kernel
theorem dX3_shortenVectors_49 : decode cX3_shortenVectors 49 = .ok (.if_icmp .ge 7, 3) := by decide +kernel
theorem dX3_shortenVectors_52 : decode cX3_shortenVectors 52 = .ok (.aload_n 0, 1) := by decide +kernel
theorem dX3_shortenVectors_53 : decode cX3_shortenVectors 53 = .ok (.invokevirtual 84, 3) := by decide +kernel
theorem dX3_shortenVectors_56 : decode cX3_shortenVectors 56 = .ok (.aload_n 0, 1) := by decide +kernel
theorem dX3_shortenVectors_57 : decode cX3_shortenVectors 57 = .ok (.getfield 37, 3) := by decide +kernel
theorem dX3_shortenVectors_60 : decode cX3_shortenVectors 60 = .ok (.aload_n 0, 1) := by decide +kernel
theorem dX3_shortenVectors_61 : decode cX3_shortenVectors 61 = .ok (.getfield 44, 3) := by decide +kernel
theorem dX3_shortenVectors_64 : decode cX3_shortenVectors 64 = .ok (.imul, 1) := by decide +kernel
theorem dX3_shortenVectors_65 : decode cX3_shortenVectors 65 = .ok (.aload_n 0, 1) := by decide +kernel
theorem dX3_shortenVectors_66 : decode cX3_shortenVectors 66 = .ok (.getfield 41, 3) := by decide +kernel
theorem dX3_shortenVectors_69 : decode cX3_shortenVectors 69 = .ok (.aload_n 0, 1) := by decide +kernel
theorem dX3_shortenVectors_70 : decode cX3_shortenVectors 70 = .ok (.getfield 47, 3) := by decide +kernel
theorem dX3_shortenVectors_73 : decode cX3_shortenVectors 73 = .ok (.imul, 1) := by decide +kernel
theorem dX3_shortenVectors_74 : decode cX3_shortenVectors 74 = .ok (.iadd, 1) := by decide +kernel
theorem dX3_shortenVectors_75 : decode cX3_shortenVectors 75 = .ok (.aload_n 0, 1) := by decide +kernel
theorem dX3_shortenVectors_76 : decode cX3_shortenVectors 76 = .ok (.getfield 37, 3) := by decide +kernel
theorem dX3_shortenVectors_79 : decode cX3_shortenVectors 79 = .ok (.aload_n 0, 1) := by decide +kernel
theorem dX3_shortenVectors_80 : decode cX3_shortenVectors 80 = .ok (.getfield 37, 3) := by decide +kernel
theorem dX3_shortenVectors_83 : decode cX3_shortenVectors 83 = .ok (.imul, 1) := by decide +kernel
theorem dX3_shortenVectors_84 : decode cX3_shortenVectors 84 = .ok (.aload_n 0, 1) := by decide +kernel
theorem dX3_shortenVectors_85 : decode cX3_shortenVectors 85 = .ok (.getfield 41, 3) := by decide +kernel
theorem dX3_shortenVectors_88 : decode cX3_shortenVectors 88 = .ok (.aload_n 0, 1) := by decide +kernel
theorem dX3_shortenVectors_89 : decode cX3_shortenVectors 89 = .ok (.getfield 41, 3) := by decide +kernel
theorem dX3_shortenVectors_92 : decode cX3_shortenVectors 92 = .ok (.imul, 1) := by decide +kernel
theorem dX3_shortenVectors_93 : decode cX3_shortenVectors 93 = .ok (.iadd, 1) := by decide +kernel
theorem dX3_shortenVectors_94 : decode cX3_shortenVectors 94 = .ok (.invokestatic 87, 3) := by decide +kernel
theorem dX3_shortenVectors_97 : decode cX3_shortenVectors 97 = .ok (.istore_n 3, 1) := by decide +kernel
theorem dX3_shortenVectors_98 : decode cX3_shortenVectors 98 = .ok (.iload_n 3, 1) := by decide +kernel
theorem dX3_shortenVectors_99 : decode cX3_shortenVectors 99 = .ok (.ifCond .ne 5, 3) := by decide +kernel
theorem dX3_shortenVectors_102 : decode cX3_shortenVectors 102 = .ok (.iload_n 1, 1) := by decide +kernel
theorem dX3_shortenVectors_103 : decode cX3_shortenVectors 103 = .ok (.ireturn, 1) := by decide +kernel
theorem dX3_shortenVectors_104 : decode cX3_shortenVectors 104 = .ok (.aload_n 0, 1) := by decide +kernel
theorem dX3_shortenVectors_105 : decode cX3_shortenVectors 105 = .ok (.dup, 1) := by decide +kernel
theorem dX3_shortenVectors_106 : decode cX3_shortenVectors 106 = .ok (.getfield 44, 3) := by decide +kernel
theorem dX3_shortenVectors_109 : decode cX3_shortenVectors 109 = .ok (.iload_n 3, 1) := by decide +kernel
theorem dX3_shortenVectors_110 : decode cX3_shortenVectors 110 = .ok (.aload_n 0, 1) := by decide +kernel
theorem dX3_shortenVectors_111 : decode cX3_shortenVectors 111 = .ok (.getfield 37, 3) := by decide +kernel
theorem dX3_shortenVectors_114 : decode cX3_shortenVectors 114 = .ok (.imul, 1) := by decide +kernel
theorem dX3_shortenVectors_115 : decode cX3_shortenVectors 115 = .ok (.isub, 1) := by decide +kernel
theorem dX3_shortenVectors_116 : decode cX3_shortenVectors 116 = .ok (.putfield 44, 3) := by decide +kernel
theorem dX3_shortenVectors_119 : decode cX3_shortenVectors 119 = .ok (.aload_n 0, 1) := by decide +kernel
theorem dX3_shortenVectors_120 : decode cX3_shortenVectors 120 = .ok (.dup, 1) := by decide +kernel
theorem dX3_shortenVectors_121 : decode cX3_shortenVectors 121 = .ok (.getfield 47, 3) := by decide +kernel
theorem dX3_shortenVectors_124 : decode cX3_shortenVectors 124 = .ok (.iload_n 3, 1) := by decide +kernel
theorem dX3_shortenVectors_125 : decode cX3_shortenVectors 125 = .ok (.aload_n 0, 1) := by decide +kernel
theorem dX3_shortenVectors_126 : decode cX3_shortenVectors 126 = .ok (.getfield 41, 3) := by decide +kernel
theorem dX3_shortenVectors_129 : decode cX3_shortenVectors 129 = .ok (.imul, 1) := by decide +kernel
theorem dX3_shortenVectors_130 : decode cX3_shortenVectors 130 = .ok (.isub, 1) := by decide +kernel
theorem dX3_shortenVectors_131 : decode cX3_shortenVectors 131 = .ok (.putfield 47, 3) := by decide +kernel
theorem dX3_shortenVectors_134 : decode cX3_shortenVectors 134 = .ok (.iinc 1 1, 3) := by decide +kernel
theorem dX3_shortenVectors_137 : decode cX3_shortenVectors 137 = .ok (.iinc 2 1, 3) := by decide +kernel
theorem dX3_shortenVectors_140 : decode cX3_shortenVectors 140 = .ok (.goto (-136), 3) := by decide +kernel
theorem dX3_shortenVectors_143 : decode cX3_shortenVectors 143 = .ok (.iload_n 1, 1) := by decide +kernel
theorem dX3_shortenVectors_144 : decode cX3_shortenVectors 144 = .ok (.ireturn, 1) := by decide +kernel
theorem dX3_exchangeVectors_0 : decode cX3_exchangeVectors 0 = .ok (.aload_n 0, 1) := by decide +kernel
theorem dX3_exchangeVectors_1 : decode cX3_exchangeVectors 1 = .ok (.getfield 37, 3) := by decide +kernel
theorem dX3_exchangeVectors_4 : decode cX3_exchangeVectors 4 = .ok (.istore_n 1, 1) := by decide +kernel
theorem dX3_exchangeVectors_5 : decode cX3_exchangeVectors 5 = .ok (.aload_n 0, 1) := by decide +kernel
theorem dX3_exchangeVectors_6 : decode cX3_exchangeVectors 6 = .ok (.getfield 41, 3) := by decide +kernel
theorem dX3_exchangeVectors_9 : decode cX3_exchangeVectors 9 = .ok (.istore_n 2, 1) := by decide +kernel
theorem dX3_exchangeVectors_10 : decode cX3_exchangeVectors 10 = .ok (.aload_n 0, 1) := by decide +kernel
theorem dX3_exchangeVectors_11 : decode cX3_exchangeVectors 11 = .ok (.aload_n 0, 1) := by decide +kernel
theorem dX3_exchangeVectors_12 : decode cX3_exchangeVectors 12 = .ok (.getfield 44, 3) := by decide +kernel
theorem dX3_exchangeVectors_15 : decode cX3_exchangeVectors 15 = .ok (.putfield 37, 3) := by decide +kernel
theorem dX3_exchangeVectors_18 : decode cX3_exchangeVectors 18 = .ok (.aload_n 0, 1) := by decide +kernel
theorem dX3_exchangeVectors_19 : decode cX3_exchangeVectors 19 = .ok (.aload_n 0, 1) := by decide +kernel
theorem dX3_exchangeVectors_20 : decode cX3_exchangeVectors 20 = .ok (.getfield 47, 3) := by decide +kernel
theorem dX3_exchangeVectors_23 : decode cX3_exchangeVectors 23 = .ok (.putfield 41, 3) := by decide +kernel
theorem dX3_exchangeVectors_26 : decode cX3_exchangeVectors 26 = .ok (.aload_n 0, 1) := by decide +kernel
theorem dX3_exchangeVectors_27 : decode cX3_exchangeVectors 27 = .ok (.iload_n 1, 1) := by decide +kernel
theorem dX3_exchangeVectors_28 : decode cX3_exchangeVectors 28 = .ok (.putfield 44, 3) := by decide +kernel
theorem dX3_exchangeVectors_31 : decode cX3_exchangeVectors 31 = .ok (.aload_n 0, 1) := by decide +kernel
theorem dX3_exchangeVectors_32 : decode cX3_exchangeVectors 32 = .ok (.iload_n 2, 1) := by decide +kernel
theorem dX3_exchangeVectors_33 : decode cX3_exchangeVectors 33 = .ok (.putfield 47, 3) := by decide +kernel
theorem dX3_exchangeVectors_36 : decode cX3_exchangeVectors 36 = .ok (.return_, 1) := by decide +kernel
set_option maxRecDepth 20000 in
theorem ggX3_nearestRatio_X4_div : GoodIn wsX3_nearestRatio wsX4_div := goodIn_r _ [7] (by decide +kernel) (by decide +kernel)
set_option maxRecDepth 20000 in
theorem gX3_nearestRatio_X4_div_n95 : GoodIn wsX3_nearestRatio (wsX4_div) := ggX3_nearestRatio_X4_div
theorem dX3_nearestRatio_0 : decode cX3_nearestRatio 0 = .ok (.iconst 2, 1) := by decide +kernel
theorem dX3_nearestRatio_1 : decode cX3_nearestRatio 1 = .ok (.iload_n 0, 1) := by decide +kernel
theorem dX3_nearestRatio_2 : decode cX3_nearestRatio 2 = .ok (.invokestatic 90, 3) := by decide +kernel
theorem dX3_nearestRatio_5 : decode cX3_nearestRatio 5 = .ok (.imul, 1) := by decide +kernel
theorem dX3_nearestRatio_6 : decode cX3_nearestRatio 6 = .ok (.iload_n 1, 1) := by decide +kernel
theorem dX3_nearestRatio_7 : decode cX3_nearestRatio 7 = .ok (.iadd, 1) := by decide +kernel
theorem dX3_nearestRatio_8 : decode cX3_nearestRatio 8 = .ok (.iconst 1, 1) := by decide +kernel
theorem dX3_nearestRatio_9 : decode cX3_nearestRatio 9 = .ok (.isub, 1) := by decide +kernel
theorem dX3_nearestRatio_10 : decode cX3_nearestRatio 10 = .ok (.iconst 2, 1) := by decide +kernel
theorem dX3_nearestRatio_11 : decode cX3_nearestRatio 11 = .ok (.iload_n 1, 1) := by decide +kernel
theorem dX3_nearestRatio_12 : decode cX3_nearestRatio 12 = .ok (.imul, 1) := by decide +kernel
theorem dX3_nearestRatio_13 : decode cX3_nearestRatio 13 = .ok (.invokestatic 95, 3) := by decide +kernel
theorem dX3_nearestRatio_16 : decode cX3_nearestRatio 16 = .ok (.istore_n 2, 1) := by decide +kernel
theorem dX3_nearestRatio_17 : decode cX3_nearestRatio 17 = .ok (.iload_n 0, 1) := by decide +kernel
theorem dX3_nearestRatio_18 : decode cX3_nearestRatio 18 = .ok (.ifCond .ge 8, 3) := by decide +kernel
theorem dX3_nearestRatio_21 : decode cX3_nearestRatio 21 = .ok (.iload_n 2, 1) := by decide +kernel
theorem dX3_nearestRatio_22 : decode cX3_nearestRatio 22 = .ok (.ineg, 1) := by decide +kernel
theorem dX3_nearestRatio_23 : decode cX3_nearestRatio 23 = .ok (.goto 4, 3) := by decide +kernel
theorem dX3_nearestRatio_26 : decode cX3_nearestRatio 26 = .ok (.iload_n 2, 1) := by decide +kernel
theorem dX3_nearestRatio_27 : decode cX3_nearestRatio 27 = .ok (.ireturn, 1) := by decide +kernel
set_option maxRecDepth 20000 in
theorem ggX3_regrow_X2_span : GoodIn wsX3_regrow wsX2_span := goodIn_r _ [16, 17, 18, 19, 20, 21, 22, 23, 24, 25, 26, 27, 28, 29, 30, 31, 32, 33, 34, 35, 116, 117, 118] (by decide +kernel) (by decide +kernel)
set_option maxRecDepth 20000 in
theorem gX3_regrow_X2_span : GoodIn wsX3_regrow (wsV RX3 104 RX2 yX2_span wsX2_span) := goodIn_app (goodIn_of _ (by decide +kernel)) ggX3_regrow_X2_span
set_option maxRecDepth 20000 in
theorem ggX3_regrow_X3_findNeighbors : GoodIn wsX3_regrow wsX3_findNeighbors := goodIn_r _ [40, 7, 41, 42, 43, 44, 45, 39, 46, 47, 48, 49, 15, 50, 17, 22, 51, 25, 52, 53, 54, 34, 55, 56, 57, 58, 59, 60, 61, 23, 30, 31, 32, 33, 35, 62, 63, 101, 102, 103, 104, 105, 106, 107, 108, 109, 110, 111, 112, 113, 114, 115, 116, 117, 118] (by decide +kernel) (by decide +kernel)
set_option maxRecDepth 20000 in
theorem gX3_regrow_X3_findNeighbors : GoodIn wsX3_regrow (wsV RX3 108 RX3 yX3_findNeighbors wsX3_findNeighbors) := goodIn_app (goodIn_of _ (by decide +kernel)) ggX3_regrow_X3_findNeighbors
set_option maxRecDepth 20000 in
theorem ggX3_regrow_X3_findValues : GoodIn wsX3_regrow wsX3_findValues := goodIn_r _ [67, 68, 69, 70, 71, 72, 73, 74, 39, 75, 8, 11, 9, 10, 7, 41, 76, 77, 20, 78, 43, 44, 45, 46, 47, 48, 49, 15, 50, 17, 22, 51, 25, 52, 53, 54, 34, 55, 30, 31, 32, 33, 35, 62, 63, 79, 80, 81, 82, 83, 84, 19, 21, 85, 58, 59, 60, 61, 23, 86, 87, 88, 89, 90, 91, 56, 57, 101, 102, 103, 104, 105, 106, 107, 108, 109, 110, 111, 112, 113, 114, 115, 116, 117, 118] (by decide +kernel) (by decide +kernel)
set_option maxRecDepth 20000 in
theorem gX3_regrow_X3_findValues : GoodIn wsX3_regrow (wsV RX3 111 RX3 yX3_findValues wsX3_findValues) := goodIn_app (goodIn_of _ (by decide +kernel)) ggX3_regrow_X3_findValues
set_option maxRecDepth 20000 in
theorem ggX3_regrow_X3_findRanks : GoodIn wsX3_regrow wsX3_findRanks := goodIn_r _ [95, 1, 96, 43, 44, 45, 39, 46, 7, 47, 48, 49, 15, 50, 17, 22, 97, 98, 99, 100, 69, 56, 25, 57, 62, 63, 101, 102, 103, 104, 105, 106, 107, 108, 109, 110, 111, 112, 113, 114, 115, 116, 117, 118] (by decide +kernel) (by decide +kernel)
set_option maxRecDepth 20000 in
theorem gX3_regrow_X3_findRanks : GoodIn wsX3_regrow (wsV RX3 114 RX3 yX3_findRanks wsX3_findRanks) := goodIn_app (goodIn_of _ (by decide +kernel)) ggX3_regrow_X3_findRanks
set_option maxRecDepth 20000 in
theorem ggX3_regrow_X3_area : GoodIn wsX3_regrow wsX3_area := goodIn_r _ [46, 7, 47, 48, 49, 15, 50, 17, 22, 101, 102, 103, 104, 105, 106, 107, 108, 109, 110, 111, 112, 113, 114, 115, 116, 117, 118] (by decide +kernel) (by decide +kernel)
set_option maxRecDepth 20000 in
theorem gX3_regrow_X3_area : GoodIn wsX3_regrow (wsV RX3 71 RX3 yX3_area wsX3_area) := goodIn_app (goodIn_of _ (by decide +kernel)) ggX3_regrow_X3_area
set_option maxRecDepth 20000 in
theorem ggX3_regrow_X4_at : GoodIn wsX3_regrow wsX4_at := goodIn_r _ [57] (by decide +kernel) (by decide +kernel)
set_option maxRecDepth 20000 in
theorem gX3_regrow_X4_at_n80 : GoodIn wsX3_regrow (wsX4_at) := ggX3_regrow_X4_at
theorem dX3_regrow_0 : decode cX3_regrow 0 = .ok (.aload_n 0, 1) := by decide +kernel
theorem dX3_regrow_1 : decode cX3_regrow 1 = .ok (.getfield 25, 3) := by decide +kernel
theorem dX3_regrow_4 : decode cX3_regrow 4 = .ok (.iconst 0, 1) := by decide +kernel
theorem dX3_regrow_5 : decode cX3_regrow 5 = .ok (.aload_n 0, 1) := by decide +kernel
theorem dX3_regrow_6 : decode cX3_regrow 6 = .ok (.getfield 28, 3) := by decide +kernel
theorem dX3_regrow_9 : decode cX3_regrow 9 = .ok (.iconst 0, 1) := by decide +kernel
theorem dX3_regrow_10 : decode cX3_regrow 10 = .ok (.bipush 64, 2) := by decide +kernel
theorem dX3_regrow_12 : decode cX3_regrow 12 = .ok (.invokestatic 98, 3) := by decide +kernel
theorem dX3_regrow_15 : decode cX3_regrow 15 = .ok (.aload_n 0, 1) := by decide +kernel
theorem dX3_regrow_16 : decode cX3_regrow 16 = .ok (.getfield 12, 3) := by decide +kernel
theorem dX3_regrow_19 : decode cX3_regrow 19 = .ok (.aload_n 0, 1) := by decide +kernel
theorem dX3_regrow_20 : decode cX3_regrow 20 = .ok (.getfield 37, 3) := by decide +kernel
theorem dX3_regrow_23 : decode cX3_regrow 23 = .ok (.aload_n 0, 1) := by decide +kernel
theorem dX3_regrow_24 : decode cX3_regrow 24 = .ok (.getfield 41, 3) := by decide +kernel
theorem dX3_regrow_27 : decode cX3_regrow 27 = .ok (.aload_n 0, 1) := by decide +kernel
theorem dX3_regrow_28 : decode cX3_regrow 28 = .ok (.getfield 44, 3) := by decide +kernel
theorem dX3_regrow_31 : decode cX3_regrow 31 = .ok (.aload_n 0, 1) := by decide +kernel
theorem dX3_regrow_32 : decode cX3_regrow 32 = .ok (.getfield 47, 3) := by decide +kernel
theorem dX3_regrow_35 : decode cX3_regrow 35 = .ok (.iconst 0, 1) := by decide +kernel
theorem dX3_regrow_36 : decode cX3_regrow 36 = .ok (.invokevirtual 104, 3) := by decide +kernel
theorem dX3_regrow_39 : decode cX3_regrow 39 = .ok (.aload_n 0, 1) := by decide +kernel
theorem dX3_regrow_40 : decode cX3_regrow 40 = .ok (.invokevirtual 108, 3) := by decide +kernel
theorem dX3_regrow_43 : decode cX3_regrow 43 = .ok (.aload_n 0, 1) := by decide +kernel
theorem dX3_regrow_44 : decode cX3_regrow 44 = .ok (.invokevirtual 111, 3) := by decide +kernel
theorem dX3_regrow_47 : decode cX3_regrow 47 = .ok (.aload_n 0, 1) := by decide +kernel
theorem dX3_regrow_48 : decode cX3_regrow 48 = .ok (.invokevirtual 114, 3) := by decide +kernel
theorem dX3_regrow_51 : decode cX3_regrow 51 = .ok (.iconst 0, 1) := by decide +kernel
theorem dX3_regrow_52 : decode cX3_regrow 52 = .ok (.istore_n 1, 1) := by decide +kernel
theorem dX3_regrow_53 : decode cX3_regrow 53 = .ok (.iconst 0, 1) := by decide +kernel
theorem dX3_regrow_54 : decode cX3_regrow 54 = .ok (.istore_n 2, 1) := by decide +kernel
theorem dX3_regrow_55 : decode cX3_regrow 55 = .ok (.iload_n 2, 1) := by decide +kernel
theorem dX3_regrow_56 : decode cX3_regrow 56 = .ok (.aload_n 0, 1) := by decide +kernel
theorem dX3_regrow_57 : decode cX3_regrow 57 = .ok (.invokevirtual 71, 3) := by decide +kernel
theorem dX3_regrow_60 : decode cX3_regrow 60 = .ok (.if_icmp .ge 31, 3) := by decide +kernel
theorem dX3_regrow_63 : decode cX3_regrow 63 = .ok (.aload_n 0, 1) := by decide +kernel
theorem dX3_regrow_64 : decode cX3_regrow 64 = .ok (.getfield 25, 3) := by decide +kernel
theorem dX3_regrow_67 : decode cX3_regrow 67 = .ok (.iload_n 2, 1) := by decide +kernel
theorem dX3_regrow_68 : decode cX3_regrow 68 = .ok (.invokestatic 80, 3) := by decide +kernel
theorem dX3_regrow_71 : decode cX3_regrow 71 = .ok (.aload_n 0, 1) := by decide +kernel
theorem dX3_regrow_72 : decode cX3_regrow 72 = .ok (.getfield 28, 3) := by decide +kernel
theorem dX3_regrow_75 : decode cX3_regrow 75 = .ok (.iload_n 2, 1) := by decide +kernel
theorem dX3_regrow_76 : decode cX3_regrow 76 = .ok (.invokestatic 80, 3) := by decide +kernel
theorem dX3_regrow_79 : decode cX3_regrow 79 = .ok (.if_icmp .eq 6, 3) := by decide +kernel
theorem dX3_regrow_82 : decode cX3_regrow 82 = .ok (.iinc 1 1, 3) := by decide +kernel
theorem dX3_regrow_85 : decode cX3_regrow 85 = .ok (.iinc 2 1, 3) := by decide +kernel
theorem dX3_regrow_88 : decode cX3_regrow 88 = .ok (.goto (-33), 3) := by decide +kernel
theorem dX3_regrow_91 : decode cX3_regrow 91 = .ok (.iload_n 1, 1) := by decide +kernel
theorem dX3_regrow_92 : decode cX3_regrow 92 = .ok (.ireturn, 1) := by decide +kernel
set_option maxRecDepth 20000 in
theorem ggX3_findNeighbors_X3_area : GoodIn wsX3_findNeighbors wsX3_area := goodIn_r _ [8, 1, 9, 10, 11, 12, 13, 14, 15, 37, 38, 39, 40, 41, 42, 43, 44, 45, 46, 47, 48, 49, 50, 51, 52, 53, 54] (by decide +kernel) (by decide +kernel)
set_option maxRecDepth 20000 in
theorem gX3_findNeighbors_X3_area : GoodIn wsX3_findNeighbors (wsV RX3 71 RX3 yX3_area wsX3_area) := goodIn_app (goodIn_of _ (by decide +kernel)) ggX3_findNeighbors_X3_area
set_option maxRecDepth 20000 in
theorem ggX3_findNeighbors_X4_floorDiv : GoodIn wsX3_findNeighbors wsX4_floorDiv := goodIn_r _ [18, 19, 20, 21, 22] (by decide +kernel) (by decide +kernel)
set_option maxRecDepth 20000 in
theorem gX3_findNeighbors_X4_floorDiv_n120 : GoodIn wsX3_findNeighbors (wsX4_floorDiv) := ggX3_findNeighbors_X4_floorDiv
set_option maxRecDepth 20000 in
theorem ggX3_findNeighbors_X4_at : GoodIn wsX3_findNeighbors wsX4_at := goodIn_r _ [24] (by decide +kernel) (by decide +kernel)
set_option maxRecDepth 20000 in
theorem gX3_findNeighbors_X4_at_n80 : GoodIn wsX3_findNeighbors (wsX4_at) := ggX3_findNeighbors_X4_at
set_option maxRecDepth 20000 in
theorem ggX3_findNeighbors_X2_numberOf : GoodIn wsX3_findNeighbors wsX2_numberOf := goodIn_r _ [28, 15, 14, 29, 16, 17, 18, 19, 20, 21, 22, 30, 31, 32, 33, 34, 52, 53, 54] (by decide +kernel) (by decide +kernel)
set_option maxRecDepth 20000 in
theorem gX3_findNeighbors_X2_numberOf : GoodIn wsX3_findNeighbors (wsV RX3 72 RX2 yX2_numberOf wsX2_numberOf) := goodIn_app (goodIn_of _ (by decide +kernel)) ggX3_findNeighbors_X2_numberOf
set_option maxRecDepth 20000 in
theorem ggX3_findNeighbors_X4_put : GoodIn wsX3_findNeighbors wsX4_put := goodIn_r _ [36] (by decide +kernel) (by decide +kernel)
set_option maxRecDepth 20000 in
theorem gX3_findNeighbors_X4_put_n129 : GoodIn wsX3_findNeighbors (wsX4_put) := ggX3_findNeighbors_X4_put
theorem dX3_findNeighbors_0 : decode cX3_findNeighbors 0 = .ok (.iconst 0, 1) := by decide +kernel
theorem dX3_findNeighbors_1 : decode cX3_findNeighbors 1 = .ok (.istore_n 1, 1) := by decide +kernel
theorem dX3_findNeighbors_2 : decode cX3_findNeighbors 2 = .ok (.iload_n 1, 1) := by decide +kernel
theorem dX3_findNeighbors_3 : decode cX3_findNeighbors 3 = .ok (.aload_n 0, 1) := by decide +kernel
theorem dX3_findNeighbors_4 : decode cX3_findNeighbors 4 = .ok (.invokevirtual 71, 3) := by decide +kernel
theorem dX3_findNeighbors_7 : decode cX3_findNeighbors 7 = .ok (.if_icmp .ge 92, 3) := by decide +kernel
theorem dX3_findNeighbors_10 : decode cX3_findNeighbors 10 = .ok (.iload_n 1, 1) := by decide +kernel
theorem dX3_findNeighbors_11 : decode cX3_findNeighbors 11 = .ok (.aload_n 0, 1) := by decide +kernel
theorem dX3_findNeighbors_12 : decode cX3_findNeighbors 12 = .ok (.getfield 12, 3) := by decide +kernel
theorem dX3_findNeighbors_15 : decode cX3_findNeighbors 15 = .ok (.getfield 117, 3) := by decide +kernel
theorem dX3_findNeighbors_18 : decode cX3_findNeighbors 18 = .ok (.invokestatic 120, 3) := by decide +kernel
theorem dX3_findNeighbors_21 : decode cX3_findNeighbors 21 = .ok (.istore_n 2, 1) := by decide +kernel
theorem dX3_findNeighbors_22 : decode cX3_findNeighbors 22 = .ok (.iload_n 1, 1) := by decide +kernel
theorem dX3_findNeighbors_23 : decode cX3_findNeighbors 23 = .ok (.iload_n 2, 1) := by decide +kernel
theorem dX3_findNeighbors_24 : decode cX3_findNeighbors 24 = .ok (.aload_n 0, 1) := by decide +kernel
theorem dX3_findNeighbors_25 : decode cX3_findNeighbors 25 = .ok (.getfield 12, 3) := by decide +kernel
theorem dX3_findNeighbors_28 : decode cX3_findNeighbors 28 = .ok (.getfield 117, 3) := by decide +kernel
theorem dX3_findNeighbors_31 : decode cX3_findNeighbors 31 = .ok (.imul, 1) := by decide +kernel
theorem dX3_findNeighbors_32 : decode cX3_findNeighbors 32 = .ok (.isub, 1) := by decide +kernel
theorem dX3_findNeighbors_33 : decode cX3_findNeighbors 33 = .ok (.istore_n 3, 1) := by decide +kernel
theorem dX3_findNeighbors_34 : decode cX3_findNeighbors 34 = .ok (.iconst 0, 1) := by decide +kernel
theorem dX3_findNeighbors_35 : decode cX3_findNeighbors 35 = .ok (.istore 4, 2) := by decide +kernel
theorem dX3_findNeighbors_37 : decode cX3_findNeighbors 37 = .ok (.iload 4, 2) := by decide +kernel
theorem dX3_findNeighbors_39 : decode cX3_findNeighbors 39 = .ok (.iconst 4, 1) := by decide +kernel
theorem dX3_findNeighbors_40 : decode cX3_findNeighbors 40 = .ok (.if_icmp .ge 53, 3) := by decide +kernel
theorem dX3_findNeighbors_43 : decode cX3_findNeighbors 43 = .ok (.aload_n 0, 1) := by decide +kernel
theorem dX3_findNeighbors_44 : decode cX3_findNeighbors 44 = .ok (.getfield 12, 3) := by decide +kernel
theorem dX3_findNeighbors_47 : decode cX3_findNeighbors 47 = .ok (.iload_n 3, 1) := by decide +kernel
theorem dX3_findNeighbors_48 : decode cX3_findNeighbors 48 = .ok (.getstatic 123, 3) := by decide +kernel
theorem dX3_findNeighbors_51 : decode cX3_findNeighbors 51 = .ok (.iload 4, 2) := by decide +kernel
theorem dX3_findNeighbors_53 : decode cX3_findNeighbors 53 = .ok (.invokestatic 80, 3) := by decide +kernel
theorem dX3_findNeighbors_56 : decode cX3_findNeighbors 56 = .ok (.iadd, 1) := by decide +kernel
theorem dX3_findNeighbors_57 : decode cX3_findNeighbors 57 = .ok (.iload_n 2, 1) := by decide +kernel
theorem dX3_findNeighbors_58 : decode cX3_findNeighbors 58 = .ok (.getstatic 126, 3) := by decide +kernel
theorem dX3_findNeighbors_61 : decode cX3_findNeighbors 61 = .ok (.iload 4, 2) := by decide +kernel
theorem dX3_findNeighbors_63 : decode cX3_findNeighbors 63 = .ok (.invokestatic 80, 3) := by decide +kernel
theorem dX3_findNeighbors_66 : decode cX3_findNeighbors 66 = .ok (.iadd, 1) := by decide +kernel
theorem dX3_findNeighbors_67 : decode cX3_findNeighbors 67 = .ok (.invokevirtual 72, 3) := by decide +kernel
theorem dX3_findNeighbors_70 : decode cX3_findNeighbors 70 = .ok (.istore 5, 2) := by decide +kernel
theorem dX3_findNeighbors_72 : decode cX3_findNeighbors 72 = .ok (.aload_n 0, 1) := by decide +kernel
theorem dX3_findNeighbors_73 : decode cX3_findNeighbors 73 = .ok (.getfield 34, 3) := by decide +kernel
theorem dX3_findNeighbors_76 : decode cX3_findNeighbors 76 = .ok (.iconst 4, 1) := by decide +kernel
theorem dX3_findNeighbors_77 : decode cX3_findNeighbors 77 = .ok (.iload_n 1, 1) := by decide +kernel
theorem dX3_findNeighbors_78 : decode cX3_findNeighbors 78 = .ok (.imul, 1) := by decide +kernel
theorem dX3_findNeighbors_79 : decode cX3_findNeighbors 79 = .ok (.iload 4, 2) := by decide +kernel
theorem dX3_findNeighbors_81 : decode cX3_findNeighbors 81 = .ok (.iadd, 1) := by decide +kernel
theorem dX3_findNeighbors_82 : decode cX3_findNeighbors 82 = .ok (.iload 5, 2) := by decide +kernel
theorem dX3_findNeighbors_84 : decode cX3_findNeighbors 84 = .ok (.invokestatic 129, 3) := by decide +kernel
theorem dX3_findNeighbors_87 : decode cX3_findNeighbors 87 = .ok (.iinc 4 1, 3) := by decide +kernel
theorem dX3_findNeighbors_90 : decode cX3_findNeighbors 90 = .ok (.goto (-53), 3) := by decide +kernel
theorem dX3_findNeighbors_93 : decode cX3_findNeighbors 93 = .ok (.iinc 1 1, 3) := by decide +kernel
theorem dX3_findNeighbors_96 : decode cX3_findNeighbors 96 = .ok (.goto (-94), 3) := by decide +kernel
theorem dX3_findNeighbors_99 : decode cX3_findNeighbors 99 = .ok (.return_, 1) := by decide +kernel
set_option maxRecDepth 20000 in
theorem ggX3_findValues_X3_findLineValues : GoodIn wsX3_findValues wsX3_findLineValues := goodIn_r _ [9, 10, 11, 12, 13, 14, 15, 3, 2, 16, 17, 18, 19, 20, 21, 22, 8, 23, 24, 25, 26, 27, 28, 29, 30, 31, 32, 33, 34, 35, 36, 37, 38, 39, 40, 41, 42, 43, 44, 67, 68, 69, 70, 71, 72, 73, 74, 75, 76, 77, 78, 79, 80, 81, 82, 83, 84] (by decide +kernel) (by decide +kernel)
set_option maxRecDepth 20000 in
theorem gX3_findValues_X3_findLineValues : GoodIn wsX3_findValues (wsV RX3 133 RX3 yX3_findLineValues wsX3_findLineValues) := goodIn_app (goodIn_of _ (by decide +kernel)) ggX3_findValues_X3_findLineValues
set_option maxRecDepth 20000 in
theorem ggX3_findValues_X3_findLeast : GoodIn wsX3_findValues wsX3_findLeast := goodIn_r _ [48, 49, 10, 13, 12, 11, 14, 50, 51, 18, 52, 16, 17, 19, 20, 21, 22, 8, 23, 24, 25, 26, 27, 28, 29, 30, 43, 32, 44, 53, 35, 36, 37, 54, 55, 56, 57, 58, 31, 33, 34, 38, 39, 40, 41, 42, 59, 60, 61, 62, 63, 64, 65, 66, 67, 68, 69, 70, 71, 72, 73, 74, 75, 76, 77, 78, 79, 80, 81, 82, 83, 84] (by decide +kernel) (by decide +kernel)
set_option maxRecDepth 20000 in
theorem gX3_findValues_X3_findLeast : GoodIn wsX3_findValues (wsV RX3 136 RX3 yX3_findLeast wsX3_findLeast) := goodIn_app (goodIn_of _ (by decide +kernel)) ggX3_findValues_X3_findLeast
set_option maxRecDepth 20000 in
theorem ggX3_findValues_X3_area : GoodIn wsX3_findValues wsX3_area := goodIn_r _ [23, 14, 24, 25, 26, 27, 28, 29, 30, 67, 68, 69, 70, 71, 72, 73, 74, 75, 76, 77, 78, 79, 80, 81, 82, 83, 84] (by decide +kernel) (by decide +kernel)
set_option maxRecDepth 20000 in
theorem gX3_findValues_X3_area : GoodIn wsX3_findValues (wsV RX3 71 RX3 yX3_area wsX3_area) := goodIn_app (goodIn_of _ (by decide +kernel)) ggX3_findValues_X3_area
set_option maxRecDepth 20000 in
theorem ggX3_findValues_X4_at : GoodIn wsX3_findValues wsX4_at := goodIn_r _ [66] (by decide +kernel) (by decide +kernel)
set_option maxRecDepth 20000 in
theorem gX3_findValues_X4_at_n80 : GoodIn wsX3_findValues (wsX4_at) := ggX3_findValues_X4_at
set_option maxRecDepth 20000 in
theorem ggX3_findValues_X4_put : GoodIn wsX3_findValues wsX4_put := goodIn_r _ [44] (by decide +kernel) (by decide +kernel)
set_option maxRecDepth 20000 in
theorem gX3_findValues_X4_put_n129 : GoodIn wsX3_findValues (wsX4_put) := ggX3_findValues_X4_put
theorem dX3_findValues_0 : decode cX3_findValues 0 = .ok (.aload_n 0, 1) := by decide +kernel
theorem dX3_findValues_1 : decode cX3_findValues 1 = .ok (.getfield 50, 3) := by decide +kernel
theorem dX3_findValues_4 : decode cX3_findValues 4 = .ok (.iconst 3, 1) := by decide +kernel
theorem dX3_findValues_5 : decode cX3_findValues 5 = .ok (.if_icmp .ne 8, 3) := by decide +kernel
theorem dX3_findValues_8 : decode cX3_findValues 8 = .ok (.aload_n 0, 1) := by decide +kernel
theorem dX3_findValues_9 : decode cX3_findValues 9 = .ok (.invokevirtual 133, 3) := by decide +kernel
theorem dX3_findValues_12 : decode cX3_findValues 12 = .ok (.return_, 1) := by decide +kernel
theorem dX3_findValues_13 : decode cX3_findValues 13 = .ok (.aload_n 0, 1) := by decide +kernel
theorem dX3_findValues_14 : decode cX3_findValues 14 = .ok (.getfield 50, 3) := by decide +kernel
theorem dX3_findValues_17 : decode cX3_findValues 17 = .ok (.iconst 4, 1) := by decide +kernel
theorem dX3_findValues_18 : decode cX3_findValues 18 = .ok (.if_icmp .eq 20, 3) := by decide +kernel
theorem dX3_findValues_21 : decode cX3_findValues 21 = .ok (.aload_n 0, 1) := by decide +kernel
theorem dX3_findValues_22 : decode cX3_findValues 22 = .ok (.aload_n 0, 1) := by decide +kernel
theorem dX3_findValues_23 : decode cX3_findValues 23 = .ok (.getfield 18, 3) := by decide +kernel
theorem dX3_findValues_26 : decode cX3_findValues 26 = .ok (.aload_n 0, 1) := by decide +kernel
theorem dX3_findValues_27 : decode cX3_findValues 27 = .ok (.getfield 50, 3) := by decide +kernel
theorem dX3_findValues_30 : decode cX3_findValues 30 = .ok (.aload_n 0, 1) := by decide +kernel
theorem dX3_findValues_31 : decode cX3_findValues 31 = .ok (.getfield 53, 3) := by decide +kernel
theorem dX3_findValues_34 : decode cX3_findValues 34 = .ok (.invokevirtual 136, 3) := by decide +kernel
theorem dX3_findValues_37 : decode cX3_findValues 37 = .ok (.return_, 1) := by decide +kernel
theorem dX3_findValues_38 : decode cX3_findValues 38 = .ok (.aload_n 0, 1) := by decide +kernel
theorem dX3_findValues_39 : decode cX3_findValues 39 = .ok (.aload_n 0, 1) := by decide +kernel
theorem dX3_findValues_40 : decode cX3_findValues 40 = .ok (.getfield 18, 3) := by decide +kernel
theorem dX3_findValues_43 : decode cX3_findValues 43 = .ok (.iconst 0, 1) := by decide +kernel
theorem dX3_findValues_44 : decode cX3_findValues 44 = .ok (.aload_n 0, 1) := by decide +kernel
theorem dX3_findValues_45 : decode cX3_findValues 45 = .ok (.getfield 53, 3) := by decide +kernel
theorem dX3_findValues_48 : decode cX3_findValues 48 = .ok (.invokevirtual 136, 3) := by decide +kernel
theorem dX3_findValues_51 : decode cX3_findValues 51 = .ok (.aload_n 0, 1) := by decide +kernel
theorem dX3_findValues_52 : decode cX3_findValues 52 = .ok (.aload_n 0, 1) := by decide +kernel
theorem dX3_findValues_53 : decode cX3_findValues 53 = .ok (.getfield 22, 3) := by decide +kernel
theorem dX3_findValues_56 : decode cX3_findValues 56 = .ok (.iconst 0, 1) := by decide +kernel
theorem dX3_findValues_57 : decode cX3_findValues 57 = .ok (.aload_n 0, 1) := by decide +kernel
theorem dX3_findValues_58 : decode cX3_findValues 58 = .ok (.getfield 53, 3) := by decide +kernel
theorem dX3_findValues_61 : decode cX3_findValues 61 = .ok (.ifCond .ne 7, 3) := by decide +kernel
theorem dX3_findValues_64 : decode cX3_findValues 64 = .ok (.iconst 1, 1) := by decide +kernel
theorem dX3_findValues_65 : decode cX3_findValues 65 = .ok (.goto 4, 3) := by decide +kernel
theorem dX3_findValues_68 : decode cX3_findValues 68 = .ok (.iconst 0, 1) := by decide +kernel
theorem dX3_findValues_69 : decode cX3_findValues 69 = .ok (.invokevirtual 136, 3) := by decide +kernel
theorem dX3_findValues_72 : decode cX3_findValues 72 = .ok (.iconst 0, 1) := by decide +kernel
theorem dX3_findValues_73 : decode cX3_findValues 73 = .ok (.istore_n 1, 1) := by decide +kernel
theorem dX3_findValues_74 : decode cX3_findValues 74 = .ok (.iload_n 1, 1) := by decide +kernel
theorem dX3_findValues_75 : decode cX3_findValues 75 = .ok (.aload_n 0, 1) := by decide +kernel
theorem dX3_findValues_76 : decode cX3_findValues 76 = .ok (.invokevirtual 71, 3) := by decide +kernel
theorem dX3_findValues_79 : decode cX3_findValues 79 = .ok (.if_icmp .ge 34, 3) := by decide +kernel
theorem dX3_findValues_82 : decode cX3_findValues 82 = .ok (.aload_n 0, 1) := by decide +kernel
theorem dX3_findValues_83 : decode cX3_findValues 83 = .ok (.getfield 18, 3) := by decide +kernel
theorem dX3_findValues_86 : decode cX3_findValues 86 = .ok (.iload_n 1, 1) := by decide +kernel
theorem dX3_findValues_87 : decode cX3_findValues 87 = .ok (.aload_n 0, 1) := by decide +kernel
theorem dX3_findValues_88 : decode cX3_findValues 88 = .ok (.getfield 18, 3) := by decide +kernel
theorem dX3_findValues_91 : decode cX3_findValues 91 = .ok (.iload_n 1, 1) := by decide +kernel
theorem dX3_findValues_92 : decode cX3_findValues 92 = .ok (.invokestatic 80, 3) := by decide +kernel
theorem dX3_findValues_95 : decode cX3_findValues 95 = .ok (.aload_n 0, 1) := by decide +kernel
theorem dX3_findValues_96 : decode cX3_findValues 96 = .ok (.getfield 22, 3) := by decide +kernel
theorem dX3_findValues_99 : decode cX3_findValues 99 = .ok (.iload_n 1, 1) := by decide +kernel
theorem dX3_findValues_100 : decode cX3_findValues 100 = .ok (.invokestatic 80, 3) := by decide +kernel
theorem dX3_findValues_103 : decode cX3_findValues 103 = .ok (.isub, 1) := by decide +kernel
theorem dX3_findValues_104 : decode cX3_findValues 104 = .ok (.invokestatic 129, 3) := by decide +kernel
theorem dX3_findValues_107 : decode cX3_findValues 107 = .ok (.iinc 1 1, 3) := by decide +kernel
theorem dX3_findValues_110 : decode cX3_findValues 110 = .ok (.goto (-36), 3) := by decide +kernel
theorem dX3_findValues_113 : decode cX3_findValues 113 = .ok (.return_, 1) := by decide +kernel
set_option maxRecDepth 20000 in
theorem ggX3_findLineValues_X3_area : GoodIn wsX3_findLineValues wsX3_area := goodIn_r _ [17, 5, 18, 19, 20, 21, 22, 23, 24, 39, 40, 41, 42, 43, 44, 45, 46, 47, 48, 49, 50, 51, 52, 53, 54, 55, 56] (by decide +kernel) (by decide +kernel)
set_option maxRecDepth 20000 in
theorem gX3_findLineValues_X3_area : GoodIn wsX3_findLineValues (wsV RX3 71 RX3 yX3_area wsX3_area) := goodIn_app (goodIn_of _ (by decide +kernel)) ggX3_findLineValues_X3_area
set_option maxRecDepth 20000 in
theorem ggX3_findLineValues_X4_floorDiv : GoodIn wsX3_findLineValues wsX4_floorDiv := goodIn_r _ [27, 28, 29, 30, 31] (by decide +kernel) (by decide +kernel)
set_option maxRecDepth 20000 in
theorem gX3_findLineValues_X4_floorDiv_n120 : GoodIn wsX3_findLineValues (wsX4_floorDiv) := ggX3_findLineValues_X4_floorDiv
set_option maxRecDepth 20000 in
theorem ggX3_findLineValues_X4_mod : GoodIn wsX3_findLineValues wsX4_mod := goodIn_r _ [33, 34, 35, 30, 36] (by decide +kernel) (by decide +kernel)
set_option maxRecDepth 20000 in
theorem gX3_findLineValues_X4_mod_n140 : GoodIn wsX3_findLineValues (wsX4_mod) := ggX3_findLineValues_X4_mod
set_option maxRecDepth 20000 in
theorem ggX3_findLineValues_X4_put : GoodIn wsX3_findLineValues wsX4_put := goodIn_r _ [38] (by decide +kernel) (by decide +kernel)
set_option maxRecDepth 20000 in
theorem gX3_findLineValues_X4_put_n129 : GoodIn wsX3_findLineValues (wsX4_put) := ggX3_findLineValues_X4_put
theorem dX3_findLineValues_0 : decode cX3_findLineValues 0 = .ok (.aload_n 0, 1) := by decide +kernel
theorem dX3_findLineValues_1 : decode cX3_findLineValues 1 = .ok (.getfield 37, 3) := by decide +kernel
theorem dX3_findLineValues_4 : decode cX3_findLineValues 4 = .ok (.aload_n 0, 1) := by decide +kernel
theorem dX3_findLineValues_5 : decode cX3_findLineValues 5 = .ok (.getfield 47, 3) := by decide +kernel
theorem dX3_findLineValues_8 : decode cX3_findLineValues 8 = .ok (.imul, 1) := by decide +kernel
theorem dX3_findLineValues_9 : decode cX3_findLineValues 9 = .ok (.aload_n 0, 1) := by decide +kernel
theorem dX3_findLineValues_10 : decode cX3_findLineValues 10 = .ok (.getfield 41, 3) := by decide +kernel
theorem dX3_findLineValues_13 : decode cX3_findLineValues 13 = .ok (.aload_n 0, 1) := by decide +kernel
theorem dX3_findLineValues_14 : decode cX3_findLineValues 14 = .ok (.getfield 44, 3) := by decide +kernel
theorem dX3_findLineValues_17 : decode cX3_findLineValues 17 = .ok (.imul, 1) := by decide +kernel
theorem dX3_findLineValues_18 : decode cX3_findLineValues 18 = .ok (.isub, 1) := by decide +kernel
theorem dX3_findLineValues_19 : decode cX3_findLineValues 19 = .ok (.istore_n 1, 1) := by decide +kernel
theorem dX3_findLineValues_20 : decode cX3_findLineValues 20 = .ok (.iconst 2, 1) := by decide +kernel
theorem dX3_findLineValues_21 : decode cX3_findLineValues 21 = .ok (.aload_n 0, 1) := by decide +kernel
theorem dX3_findLineValues_22 : decode cX3_findLineValues 22 = .ok (.invokevirtual 71, 3) := by decide +kernel
theorem dX3_findLineValues_25 : decode cX3_findLineValues 25 = .ok (.imul, 1) := by decide +kernel
theorem dX3_findLineValues_26 : decode cX3_findLineValues 26 = .ok (.istore_n 2, 1) := by decide +kernel
theorem dX3_findLineValues_27 : decode cX3_findLineValues 27 = .ok (.iconst 0, 1) := by decide +kernel
theorem dX3_findLineValues_28 : decode cX3_findLineValues 28 = .ok (.istore_n 3, 1) := by decide +kernel
theorem dX3_findLineValues_29 : decode cX3_findLineValues 29 = .ok (.iload_n 3, 1) := by decide +kernel
theorem dX3_findLineValues_30 : decode cX3_findLineValues 30 = .ok (.aload_n 0, 1) := by decide +kernel
theorem dX3_findLineValues_31 : decode cX3_findLineValues 31 = .ok (.invokevirtual 71, 3) := by decide +kernel
theorem dX3_findLineValues_34 : decode cX3_findLineValues 34 = .ok (.if_icmp .ge 89, 3) := by decide +kernel
theorem dX3_findLineValues_37 : decode cX3_findLineValues 37 = .ok (.iload_n 3, 1) := by decide +kernel
theorem dX3_findLineValues_38 : decode cX3_findLineValues 38 = .ok (.aload_n 0, 1) := by decide +kernel
theorem dX3_findLineValues_39 : decode cX3_findLineValues 39 = .ok (.getfield 12, 3) := by decide +kernel
theorem dX3_findLineValues_42 : decode cX3_findLineValues 42 = .ok (.getfield 117, 3) := by decide +kernel
theorem dX3_findLineValues_45 : decode cX3_findLineValues 45 = .ok (.invokestatic 120, 3) := by decide +kernel
theorem dX3_findLineValues_48 : decode cX3_findLineValues 48 = .ok (.istore 4, 2) := by decide +kernel
theorem dX3_findLineValues_50 : decode cX3_findLineValues 50 = .ok (.iload_n 3, 1) := by decide +kernel
theorem dX3_findLineValues_51 : decode cX3_findLineValues 51 = .ok (.iload 4, 2) := by decide +kernel
theorem dX3_findLineValues_53 : decode cX3_findLineValues 53 = .ok (.aload_n 0, 1) := by decide +kernel
theorem dX3_findLineValues_54 : decode cX3_findLineValues 54 = .ok (.getfield 12, 3) := by decide +kernel
theorem dX3_findLineValues_57 : decode cX3_findLineValues 57 = .ok (.getfield 117, 3) := by decide +kernel
theorem dX3_findLineValues_60 : decode cX3_findLineValues 60 = .ok (.imul, 1) := by decide +kernel
theorem dX3_findLineValues_61 : decode cX3_findLineValues 61 = .ok (.isub, 1) := by decide +kernel
theorem dX3_findLineValues_62 : decode cX3_findLineValues 62 = .ok (.istore 5, 2) := by decide +kernel
theorem dX3_findLineValues_64 : decode cX3_findLineValues 64 = .ok (.iconst 2, 1) := by decide +kernel
theorem dX3_findLineValues_65 : decode cX3_findLineValues 65 = .ok (.iload 5, 2) := by decide +kernel
theorem dX3_findLineValues_67 : decode cX3_findLineValues 67 = .ok (.aload_n 0, 1) := by decide +kernel
theorem dX3_findLineValues_68 : decode cX3_findLineValues 68 = .ok (.getfield 41, 3) := by decide +kernel
theorem dX3_findLineValues_71 : decode cX3_findLineValues 71 = .ok (.imul, 1) := by decide +kernel
theorem dX3_findLineValues_72 : decode cX3_findLineValues 72 = .ok (.iload 4, 2) := by decide +kernel
theorem dX3_findLineValues_74 : decode cX3_findLineValues 74 = .ok (.aload_n 0, 1) := by decide +kernel
theorem dX3_findLineValues_75 : decode cX3_findLineValues 75 = .ok (.getfield 37, 3) := by decide +kernel
theorem dX3_findLineValues_78 : decode cX3_findLineValues 78 = .ok (.imul, 1) := by decide +kernel
theorem dX3_findLineValues_79 : decode cX3_findLineValues 79 = .ok (.isub, 1) := by decide +kernel
theorem dX3_findLineValues_80 : decode cX3_findLineValues 80 = .ok (.imul, 1) := by decide +kernel
theorem dX3_findLineValues_81 : decode cX3_findLineValues 81 = .ok (.aload_n 0, 1) := by decide +kernel
theorem dX3_findLineValues_82 : decode cX3_findLineValues 82 = .ok (.getfield 53, 3) := by decide +kernel
theorem dX3_findLineValues_85 : decode cX3_findLineValues 85 = .ok (.ifCond .eq 7, 3) := by decide +kernel
theorem dX3_findLineValues_88 : decode cX3_findLineValues 88 = .ok (.iload_n 1, 1) := by decide +kernel
theorem dX3_findLineValues_89 : decode cX3_findLineValues 89 = .ok (.goto 4, 3) := by decide +kernel
theorem dX3_findLineValues_92 : decode cX3_findLineValues 92 = .ok (.iconst 0, 1) := by decide +kernel
theorem dX3_findLineValues_93 : decode cX3_findLineValues 93 = .ok (.iadd, 1) := by decide +kernel
theorem dX3_findLineValues_94 : decode cX3_findLineValues 94 = .ok (.iload_n 2, 1) := by decide +kernel
theorem dX3_findLineValues_95 : decode cX3_findLineValues 95 = .ok (.invokestatic 140, 3) := by decide +kernel
theorem dX3_findLineValues_98 : decode cX3_findLineValues 98 = .ok (.istore 6, 2) := by decide +kernel
theorem dX3_findLineValues_100 : decode cX3_findLineValues 100 = .ok (.aload_n 0, 1) := by decide +kernel
theorem dX3_findLineValues_101 : decode cX3_findLineValues 101 = .ok (.getfield 18, 3) := by decide +kernel
theorem dX3_findLineValues_104 : decode cX3_findLineValues 104 = .ok (.iload_n 3, 1) := by decide +kernel
theorem dX3_findLineValues_105 : decode cX3_findLineValues 105 = .ok (.iload 6, 2) := by decide +kernel
theorem dX3_findLineValues_107 : decode cX3_findLineValues 107 = .ok (.iload_n 2, 1) := by decide +kernel
theorem dX3_findLineValues_108 : decode cX3_findLineValues 108 = .ok (.iload 6, 2) := by decide +kernel
theorem dX3_findLineValues_110 : decode cX3_findLineValues 110 = .ok (.isub, 1) := by decide +kernel
theorem dX3_findLineValues_111 : decode cX3_findLineValues 111 = .ok (.invokestatic 143, 3) := by decide +kernel
theorem dX3_findLineValues_114 : decode cX3_findLineValues 114 = .ok (.invokestatic 129, 3) := by decide +kernel
theorem dX3_findLineValues_117 : decode cX3_findLineValues 117 = .ok (.iinc 3 1, 3) := by decide +kernel
theorem dX3_findLineValues_120 : decode cX3_findLineValues 120 = .ok (.goto (-91), 3) := by decide +kernel
theorem dX3_findLineValues_123 : decode cX3_findLineValues 123 = .ok (.return_, 1) := by decide +kernel
set_option maxRecDepth 20000 in
theorem ggX3_findLeast_X3_area : GoodIn wsX3_findLeast wsX3_area := goodIn_r _ [18, 6, 19, 20, 21, 22, 23, 24, 25, 54, 55, 56, 57, 58, 59, 60, 61, 62, 63, 64, 65, 66, 67, 68, 69, 70, 71] (by decide +kernel) (by decide +kernel)
set_option maxRecDepth 20000 in
theorem gX3_findLeast_X3_area : GoodIn wsX3_findLeast (wsV RX3 71 RX3 yX3_area wsX3_area) := goodIn_app (goodIn_of _ (by decide +kernel)) ggX3_findLeast_X3_area
set_option maxRecDepth 20000 in
theorem ggX3_findLeast_X4_put : GoodIn wsX3_findLeast wsX4_put := goodIn_r _ [28] (by decide +kernel) (by decide +kernel)
set_option maxRecDepth 20000 in
theorem gX3_findLeast_X4_put_n129 : GoodIn wsX3_findLeast (wsX4_put) := ggX3_findLeast_X4_put
set_option maxRecDepth 20000 in
theorem ggX3_findLeast_J9_floorDiv_7cf53 : GoodIn wsX3_findLeast wsJ9_floorDiv_7cf53 := goodIn_r _ [32] (by decide +kernel) (by decide +kernel)
set_option maxRecDepth 20000 in
theorem gX3_findLeast_J9_floorDiv_7cf53 : GoodIn wsX3_findLeast (va_wsS RX3 147 yJ9_floorDiv_7cf53 wsJ9_floorDiv_7cf53) := goodIn_app (goodIn_of _ (by decide +kernel)) ggX3_findLeast_J9_floorDiv_7cf53
set_option maxRecDepth 20000 in
theorem ggX3_findLeast_X2_numberOf : GoodIn wsX3_findLeast wsX2_numberOf := goodIn_r _ [36, 25, 24, 37, 38, 27, 39, 40, 30, 31, 32, 41, 42, 43, 44, 45, 69, 70, 71] (by decide +kernel) (by decide +kernel)
set_option maxRecDepth 20000 in
theorem gX3_findLeast_X2_numberOf : GoodIn wsX3_findLeast (wsV RX3 72 RX2 yX2_numberOf wsX2_numberOf) := goodIn_app (goodIn_of _ (by decide +kernel)) ggX3_findLeast_X2_numberOf
set_option maxRecDepth 20000 in
theorem ggX3_findLeast_X3_measured : GoodIn wsX3_findLeast wsX3_measured := goodIn_r _ [48, 49, 50, 9, 51] (by decide +kernel) (by decide +kernel)
set_option maxRecDepth 20000 in
theorem gX3_findLeast_X3_measured : GoodIn wsX3_findLeast (va_wsS RX3 148 yX3_measured wsX3_measured) := goodIn_app (goodIn_of _ (by decide +kernel)) ggX3_findLeast_X3_measured
set_option maxRecDepth 20000 in
theorem ggX3_findLeast_X4_at : GoodIn wsX3_findLeast wsX4_at := goodIn_r _ [53] (by decide +kernel) (by decide +kernel)
set_option maxRecDepth 20000 in
theorem gX3_findLeast_X4_at_n80 : GoodIn wsX3_findLeast (wsX4_at) := ggX3_findLeast_X4_at
theorem dX3_findLeast_0 : decode cX3_findLeast 0 = .ok (.iconst 0, 1) := by decide +kernel
theorem dX3_findLeast_1 : decode cX3_findLeast 1 = .ok (.istore 4, 2) := by decide +kernel
theorem dX3_findLeast_3 : decode cX3_findLeast 3 = .ok (.iload 4, 2) := by decide +kernel
theorem dX3_findLeast_5 : decode cX3_findLeast 5 = .ok (.aload_n 0, 1) := by decide +kernel
theorem dX3_findLeast_6 : decode cX3_findLeast 6 = .ok (.invokevirtual 71, 3) := by decide +kernel
theorem dX3_findLeast_9 : decode cX3_findLeast 9 = .ok (.if_icmp .ge 17, 3) := by decide +kernel
theorem dX3_findLeast_12 : decode cX3_findLeast 12 = .ok (.aload_n 1, 1) := by decide +kernel
theorem dX3_findLeast_13 : decode cX3_findLeast 13 = .ok (.iload 4, 2) := by decide +kernel
theorem dX3_findLeast_15 : decode cX3_findLeast 15 = .ok (.ldc 146, 2) := by decide +kernel
theorem dX3_findLeast_17 : decode cX3_findLeast 17 = .ok (.invokestatic 129, 3) := by decide +kernel
theorem dX3_findLeast_20 : decode cX3_findLeast 20 = .ok (.iinc 4 1, 3) := by decide +kernel
theorem dX3_findLeast_23 : decode cX3_findLeast 23 = .ok (.goto (-20), 3) := by decide +kernel
theorem dX3_findLeast_26 : decode cX3_findLeast 26 = .ok (.iload_n 3, 1) := by decide +kernel
theorem dX3_findLeast_27 : decode cX3_findLeast 27 = .ok (.ifCond .eq 15, 3) := by decide +kernel
theorem dX3_findLeast_30 : decode cX3_findLeast 30 = .ok (.aload_n 0, 1) := by decide +kernel
theorem dX3_findLeast_31 : decode cX3_findLeast 31 = .ok (.getfield 37, 3) := by decide +kernel
theorem dX3_findLeast_34 : decode cX3_findLeast 34 = .ok (.aload_n 0, 1) := by decide +kernel
theorem dX3_findLeast_35 : decode cX3_findLeast 35 = .ok (.getfield 44, 3) := by decide +kernel
theorem dX3_findLeast_38 : decode cX3_findLeast 38 = .ok (.iadd, 1) := by decide +kernel
theorem dX3_findLeast_39 : decode cX3_findLeast 39 = .ok (.goto 4, 3) := by decide +kernel
theorem dX3_findLeast_42 : decode cX3_findLeast 42 = .ok (.iconst 0, 1) := by decide +kernel
theorem dX3_findLeast_43 : decode cX3_findLeast 43 = .ok (.istore 4, 2) := by decide +kernel
theorem dX3_findLeast_45 : decode cX3_findLeast 45 = .ok (.iload_n 3, 1) := by decide +kernel
theorem dX3_findLeast_46 : decode cX3_findLeast 46 = .ok (.ifCond .eq 15, 3) := by decide +kernel
theorem dX3_findLeast_49 : decode cX3_findLeast 49 = .ok (.aload_n 0, 1) := by decide +kernel
theorem dX3_findLeast_50 : decode cX3_findLeast 50 = .ok (.getfield 41, 3) := by decide +kernel
theorem dX3_findLeast_53 : decode cX3_findLeast 53 = .ok (.aload_n 0, 1) := by decide +kernel
theorem dX3_findLeast_54 : decode cX3_findLeast 54 = .ok (.getfield 47, 3) := by decide +kernel
theorem dX3_findLeast_57 : decode cX3_findLeast 57 = .ok (.iadd, 1) := by decide +kernel
theorem dX3_findLeast_58 : decode cX3_findLeast 58 = .ok (.goto 4, 3) := by decide +kernel
theorem dX3_findLeast_61 : decode cX3_findLeast 61 = .ok (.iconst 0, 1) := by decide +kernel
theorem dX3_findLeast_62 : decode cX3_findLeast 62 = .ok (.istore 5, 2) := by decide +kernel
theorem dX3_findLeast_64 : decode cX3_findLeast 64 = .ok (.iload 4, 2) := by decide +kernel
theorem dX3_findLeast_66 : decode cX3_findLeast 66 = .ok (.iconst 2, 1) := by decide +kernel
theorem dX3_findLeast_67 : decode cX3_findLeast 67 = .ok (.invokestatic 147, 3) := by decide +kernel
theorem dX3_findLeast_70 : decode cX3_findLeast 70 = .ok (.istore 6, 2) := by decide +kernel
theorem dX3_findLeast_72 : decode cX3_findLeast 72 = .ok (.iload 5, 2) := by decide +kernel
theorem dX3_findLeast_74 : decode cX3_findLeast 74 = .ok (.iconst 2, 1) := by decide +kernel
theorem dX3_findLeast_75 : decode cX3_findLeast 75 = .ok (.invokestatic 147, 3) := by decide +kernel
theorem dX3_findLeast_78 : decode cX3_findLeast 78 = .ok (.istore 7, 2) := by decide +kernel
theorem dX3_findLeast_80 : decode cX3_findLeast 80 = .ok (.iload 7, 2) := by decide +kernel
theorem dX3_findLeast_82 : decode cX3_findLeast 82 = .ok (.bipush 12, 2) := by decide +kernel
theorem dX3_findLeast_84 : decode cX3_findLeast 84 = .ok (.isub, 1) := by decide +kernel
theorem dX3_findLeast_85 : decode cX3_findLeast 85 = .ok (.istore 8, 2) := by decide +kernel
theorem dX3_findLeast_87 : decode cX3_findLeast 87 = .ok (.iload 8, 2) := by decide +kernel
theorem dX3_findLeast_89 : decode cX3_findLeast 89 = .ok (.iload 7, 2) := by decide +kernel
theorem dX3_findLeast_91 : decode cX3_findLeast 91 = .ok (.bipush 12, 2) := by decide +kernel
theorem dX3_findLeast_93 : decode cX3_findLeast 93 = .ok (.iadd, 1) := by decide +kernel
theorem dX3_findLeast_94 : decode cX3_findLeast 94 = .ok (.if_icmp .gt 88, 3) := by decide +kernel
theorem dX3_findLeast_97 : decode cX3_findLeast 97 = .ok (.iload 6, 2) := by decide +kernel
theorem dX3_findLeast_99 : decode cX3_findLeast 99 = .ok (.bipush 12, 2) := by decide +kernel
theorem dX3_findLeast_101 : decode cX3_findLeast 101 = .ok (.isub, 1) := by decide +kernel
theorem dX3_findLeast_102 : decode cX3_findLeast 102 = .ok (.istore 9, 2) := by decide +kernel
theorem dX3_findLeast_104 : decode cX3_findLeast 104 = .ok (.iload 9, 2) := by decide +kernel
theorem dX3_findLeast_106 : decode cX3_findLeast 106 = .ok (.iload 6, 2) := by decide +kernel
theorem dX3_findLeast_108 : decode cX3_findLeast 108 = .ok (.bipush 12, 2) := by decide +kernel
theorem dX3_findLeast_110 : decode cX3_findLeast 110 = .ok (.iadd, 1) := by decide +kernel
theorem dX3_findLeast_111 : decode cX3_findLeast 111 = .ok (.if_icmp .gt 65, 3) := by decide +kernel
theorem dX3_findLeast_114 : decode cX3_findLeast 114 = .ok (.aload_n 0, 1) := by decide +kernel
theorem dX3_findLeast_115 : decode cX3_findLeast 115 = .ok (.getfield 12, 3) := by decide +kernel
theorem dX3_findLeast_118 : decode cX3_findLeast 118 = .ok (.iload 9, 2) := by decide +kernel
theorem dX3_findLeast_120 : decode cX3_findLeast 120 = .ok (.iload 8, 2) := by decide +kernel
theorem dX3_findLeast_122 : decode cX3_findLeast 122 = .ok (.invokevirtual 72, 3) := by decide +kernel
theorem dX3_findLeast_125 : decode cX3_findLeast 125 = .ok (.istore 10, 2) := by decide +kernel
theorem dX3_findLeast_127 : decode cX3_findLeast 127 = .ok (.iload_n 2, 1) := by decide +kernel
theorem dX3_findLeast_128 : decode cX3_findLeast 128 = .ok (.iconst 2, 1) := by decide +kernel
theorem dX3_findLeast_129 : decode cX3_findLeast 129 = .ok (.iload 9, 2) := by decide +kernel
theorem dX3_findLeast_131 : decode cX3_findLeast 131 = .ok (.imul, 1) := by decide +kernel
theorem dX3_findLeast_132 : decode cX3_findLeast 132 = .ok (.iload 4, 2) := by decide +kernel
theorem dX3_findLeast_134 : decode cX3_findLeast 134 = .ok (.isub, 1) := by decide +kernel
theorem dX3_findLeast_135 : decode cX3_findLeast 135 = .ok (.invokestatic 90, 3) := by decide +kernel
theorem dX3_findLeast_138 : decode cX3_findLeast 138 = .ok (.iconst 2, 1) := by decide +kernel
theorem dX3_findLeast_139 : decode cX3_findLeast 139 = .ok (.iload 8, 2) := by decide +kernel
theorem dX3_findLeast_141 : decode cX3_findLeast 141 = .ok (.imul, 1) := by decide +kernel
theorem dX3_findLeast_142 : decode cX3_findLeast 142 = .ok (.iload 5, 2) := by decide +kernel
theorem dX3_findLeast_144 : decode cX3_findLeast 144 = .ok (.isub, 1) := by decide +kernel
theorem dX3_findLeast_145 : decode cX3_findLeast 145 = .ok (.invokestatic 90, 3) := by decide +kernel
theorem dX3_findLeast_148 : decode cX3_findLeast 148 = .ok (.invokestatic 148, 3) := by decide +kernel
theorem dX3_findLeast_151 : decode cX3_findLeast 151 = .ok (.istore 11, 2) := by decide +kernel
theorem dX3_findLeast_153 : decode cX3_findLeast 153 = .ok (.aload_n 1, 1) := by decide +kernel
theorem dX3_findLeast_154 : decode cX3_findLeast 154 = .ok (.iload 10, 2) := by decide +kernel
theorem dX3_findLeast_156 : decode cX3_findLeast 156 = .ok (.iload 11, 2) := by decide +kernel
theorem dX3_findLeast_158 : decode cX3_findLeast 158 = .ok (.aload_n 1, 1) := by decide +kernel
theorem dX3_findLeast_159 : decode cX3_findLeast 159 = .ok (.iload 10, 2) := by decide +kernel
theorem dX3_findLeast_161 : decode cX3_findLeast 161 = .ok (.invokestatic 80, 3) := by decide +kernel
theorem dX3_findLeast_164 : decode cX3_findLeast 164 = .ok (.invokestatic 143, 3) := by decide +kernel
theorem dX3_findLeast_167 : decode cX3_findLeast 167 = .ok (.invokestatic 129, 3) := by decide +kernel
theorem dX3_findLeast_170 : decode cX3_findLeast 170 = .ok (.iinc 9 1, 3) := by decide +kernel
theorem dX3_findLeast_173 : decode cX3_findLeast 173 = .ok (.goto (-69), 3) := by decide +kernel
theorem dX3_findLeast_176 : decode cX3_findLeast 176 = .ok (.iinc 8 1, 3) := by decide +kernel
theorem dX3_findLeast_179 : decode cX3_findLeast 179 = .ok (.goto (-92), 3) := by decide +kernel
theorem dX3_findLeast_182 : decode cX3_findLeast 182 = .ok (.return_, 1) := by decide +kernel
theorem dX3_measured_0 : decode cX3_measured 0 = .ok (.iload_n 0, 1) := by decide +kernel
theorem dX3_measured_1 : decode cX3_measured 1 = .ok (.iconst 1, 1) := by decide +kernel
theorem dX3_measured_2 : decode cX3_measured 2 = .ok (.if_icmp .ne 7, 3) := by decide +kernel
theorem dX3_measured_5 : decode cX3_measured 5 = .ok (.iload_n 1, 1) := by decide +kernel
theorem dX3_measured_6 : decode cX3_measured 6 = .ok (.iload_n 2, 1) := by decide +kernel
theorem dX3_measured_7 : decode cX3_measured 7 = .ok (.iadd, 1) := by decide +kernel
theorem dX3_measured_8 : decode cX3_measured 8 = .ok (.ireturn, 1) := by decide +kernel
theorem dX3_measured_9 : decode cX3_measured 9 = .ok (.iload_n 0, 1) := by decide +kernel
theorem dX3_measured_10 : decode cX3_measured 10 = .ok (.iconst 2, 1) := by decide +kernel
theorem dX3_measured_11 : decode cX3_measured 11 = .ok (.if_icmp .ne 11, 3) := by decide +kernel
theorem dX3_measured_14 : decode cX3_measured 14 = .ok (.iload_n 1, 1) := by decide +kernel
theorem dX3_measured_15 : decode cX3_measured 15 = .ok (.iload_n 2, 1) := by decide +kernel
theorem dX3_measured_16 : decode cX3_measured 16 = .ok (.invokestatic 152, 3) := by decide +kernel
theorem dX3_measured_19 : decode cX3_measured 19 = .ok (.goto 10, 3) := by decide +kernel
theorem dX3_measured_22 : decode cX3_measured 22 = .ok (.iload_n 1, 1) := by decide +kernel
theorem dX3_measured_23 : decode cX3_measured 23 = .ok (.iload_n 1, 1) := by decide +kernel
theorem dX3_measured_24 : decode cX3_measured 24 = .ok (.imul, 1) := by decide +kernel
theorem dX3_measured_25 : decode cX3_measured 25 = .ok (.iload_n 2, 1) := by decide +kernel
theorem dX3_measured_26 : decode cX3_measured 26 = .ok (.iload_n 2, 1) := by decide +kernel
theorem dX3_measured_27 : decode cX3_measured 27 = .ok (.imul, 1) := by decide +kernel
theorem dX3_measured_28 : decode cX3_measured 28 = .ok (.iadd, 1) := by decide +kernel
theorem dX3_measured_29 : decode cX3_measured 29 = .ok (.ireturn, 1) := by decide +kernel
set_option maxRecDepth 20000 in
theorem ggX3_findRanks_X3_area : GoodIn wsX3_findRanks wsX3_area := goodIn_r _ [7, 8, 9, 10, 11, 12, 13, 14, 15, 26, 27, 28, 29, 30, 31, 32, 33, 34, 35, 36, 37, 38, 39, 40, 41, 42, 43] (by decide +kernel) (by decide +kernel)
set_option maxRecDepth 20000 in
theorem gX3_findRanks_X3_area : GoodIn wsX3_findRanks (wsV RX3 71 RX3 yX3_area wsX3_area) := goodIn_app (goodIn_of _ (by decide +kernel)) ggX3_findRanks_X3_area
set_option maxRecDepth 20000 in
theorem ggX3_findRanks_X3_isBefore : GoodIn wsX3_findRanks wsX3_isBefore := goodIn_r _ [19, 20, 21, 22, 23, 26, 27, 28, 29, 30, 31, 32, 33, 34, 35, 36, 37, 38, 39, 40] (by decide +kernel) (by decide +kernel)
set_option maxRecDepth 20000 in
theorem gX3_findRanks_X3_isBefore : GoodIn wsX3_findRanks (wsV RX3 155 RX3 yX3_isBefore wsX3_isBefore) := goodIn_app (goodIn_of _ (by decide +kernel)) ggX3_findRanks_X3_isBefore
set_option maxRecDepth 20000 in
theorem ggX3_findRanks_X4_put : GoodIn wsX3_findRanks wsX4_put := goodIn_r _ [25] (by decide +kernel) (by decide +kernel)
set_option maxRecDepth 20000 in
theorem gX3_findRanks_X4_put_n129 : GoodIn wsX3_findRanks (wsX4_put) := ggX3_findRanks_X4_put
theorem dX3_findRanks_0 : decode cX3_findRanks 0 = .ok (.iconst 0, 1) := by decide +kernel
theorem dX3_findRanks_1 : decode cX3_findRanks 1 = .ok (.istore_n 1, 1) := by decide +kernel
theorem dX3_findRanks_2 : decode cX3_findRanks 2 = .ok (.iload_n 1, 1) := by decide +kernel
theorem dX3_findRanks_3 : decode cX3_findRanks 3 = .ok (.aload_n 0, 1) := by decide +kernel
theorem dX3_findRanks_4 : decode cX3_findRanks 4 = .ok (.invokevirtual 71, 3) := by decide +kernel
theorem dX3_findRanks_7 : decode cX3_findRanks 7 = .ok (.if_icmp .ge 57, 3) := by decide +kernel
theorem dX3_findRanks_10 : decode cX3_findRanks 10 = .ok (.iconst 0, 1) := by decide +kernel
theorem dX3_findRanks_11 : decode cX3_findRanks 11 = .ok (.istore_n 2, 1) := by decide +kernel
theorem dX3_findRanks_12 : decode cX3_findRanks 12 = .ok (.iconst 0, 1) := by decide +kernel
theorem dX3_findRanks_13 : decode cX3_findRanks 13 = .ok (.istore_n 3, 1) := by decide +kernel
theorem dX3_findRanks_14 : decode cX3_findRanks 14 = .ok (.iload_n 3, 1) := by decide +kernel
theorem dX3_findRanks_15 : decode cX3_findRanks 15 = .ok (.aload_n 0, 1) := by decide +kernel
theorem dX3_findRanks_16 : decode cX3_findRanks 16 = .ok (.invokevirtual 71, 3) := by decide +kernel
theorem dX3_findRanks_19 : decode cX3_findRanks 19 = .ok (.if_icmp .ge 21, 3) := by decide +kernel
theorem dX3_findRanks_22 : decode cX3_findRanks 22 = .ok (.aload_n 0, 1) := by decide +kernel
theorem dX3_findRanks_23 : decode cX3_findRanks 23 = .ok (.iload_n 3, 1) := by decide +kernel
theorem dX3_findRanks_24 : decode cX3_findRanks 24 = .ok (.iload_n 1, 1) := by decide +kernel
theorem dX3_findRanks_25 : decode cX3_findRanks 25 = .ok (.invokevirtual 155, 3) := by decide +kernel
theorem dX3_findRanks_28 : decode cX3_findRanks 28 = .ok (.ifCond .eq 6, 3) := by decide +kernel
theorem dX3_findRanks_31 : decode cX3_findRanks 31 = .ok (.iinc 2 1, 3) := by decide +kernel
theorem dX3_findRanks_34 : decode cX3_findRanks 34 = .ok (.iinc 3 1, 3) := by decide +kernel
theorem dX3_findRanks_37 : decode cX3_findRanks 37 = .ok (.goto (-23), 3) := by decide +kernel
theorem dX3_findRanks_40 : decode cX3_findRanks 40 = .ok (.aload_n 0, 1) := by decide +kernel
theorem dX3_findRanks_41 : decode cX3_findRanks 41 = .ok (.getfield 25, 3) := by decide +kernel
theorem dX3_findRanks_44 : decode cX3_findRanks 44 = .ok (.iload_n 1, 1) := by decide +kernel
theorem dX3_findRanks_45 : decode cX3_findRanks 45 = .ok (.iload_n 2, 1) := by decide +kernel
theorem dX3_findRanks_46 : decode cX3_findRanks 46 = .ok (.invokestatic 129, 3) := by decide +kernel
theorem dX3_findRanks_49 : decode cX3_findRanks 49 = .ok (.aload_n 0, 1) := by decide +kernel
theorem dX3_findRanks_50 : decode cX3_findRanks 50 = .ok (.getfield 31, 3) := by decide +kernel
theorem dX3_findRanks_53 : decode cX3_findRanks 53 = .ok (.iload_n 2, 1) := by decide +kernel
theorem dX3_findRanks_54 : decode cX3_findRanks 54 = .ok (.iload_n 1, 1) := by decide +kernel
theorem dX3_findRanks_55 : decode cX3_findRanks 55 = .ok (.invokestatic 129, 3) := by decide +kernel
theorem dX3_findRanks_58 : decode cX3_findRanks 58 = .ok (.iinc 1 1, 3) := by decide +kernel
theorem dX3_findRanks_61 : decode cX3_findRanks 61 = .ok (.goto (-59), 3) := by decide +kernel
theorem dX3_findRanks_64 : decode cX3_findRanks 64 = .ok (.return_, 1) := by decide +kernel
set_option maxRecDepth 20000 in
theorem ggX3_isBefore_X4_at : GoodIn wsX3_isBefore wsX4_at := goodIn_r _ [4] (by decide +kernel) (by decide +kernel)
set_option maxRecDepth 20000 in
theorem gX3_isBefore_X4_at_n80 : GoodIn wsX3_isBefore (wsX4_at) := ggX3_isBefore_X4_at
theorem dX3_isBefore_0 : decode cX3_isBefore 0 = .ok (.aload_n 0, 1) := by decide +kernel
theorem dX3_isBefore_1 : decode cX3_isBefore 1 = .ok (.getfield 18, 3) := by decide +kernel
theorem dX3_isBefore_4 : decode cX3_isBefore 4 = .ok (.iload_n 1, 1) := by decide +kernel
theorem dX3_isBefore_5 : decode cX3_isBefore 5 = .ok (.invokestatic 80, 3) := by decide +kernel
theorem dX3_isBefore_8 : decode cX3_isBefore 8 = .ok (.istore_n 3, 1) := by decide +kernel
theorem dX3_isBefore_9 : decode cX3_isBefore 9 = .ok (.aload_n 0, 1) := by decide +kernel
theorem dX3_isBefore_10 : decode cX3_isBefore 10 = .ok (.getfield 18, 3) := by decide +kernel
theorem dX3_isBefore_13 : decode cX3_isBefore 13 = .ok (.iload_n 2, 1) := by decide +kernel
theorem dX3_isBefore_14 : decode cX3_isBefore 14 = .ok (.invokestatic 80, 3) := by decide +kernel
theorem dX3_isBefore_17 : decode cX3_isBefore 17 = .ok (.istore 4, 2) := by decide +kernel
theorem dX3_isBefore_19 : decode cX3_isBefore 19 = .ok (.iload_n 3, 1) := by decide +kernel
theorem dX3_isBefore_20 : decode cX3_isBefore 20 = .ok (.iload 4, 2) := by decide +kernel
theorem dX3_isBefore_22 : decode cX3_isBefore 22 = .ok (.if_icmp .lt 14, 3) := by decide +kernel
theorem dX3_isBefore_25 : decode cX3_isBefore 25 = .ok (.iload_n 3, 1) := by decide +kernel
theorem dX3_isBefore_26 : decode cX3_isBefore 26 = .ok (.iload 4, 2) := by decide +kernel
theorem dX3_isBefore_28 : decode cX3_isBefore 28 = .ok (.if_icmp .ne 12, 3) := by decide +kernel
theorem dX3_isBefore_31 : decode cX3_isBefore 31 = .ok (.iload_n 1, 1) := by decide +kernel
theorem dX3_isBefore_32 : decode cX3_isBefore 32 = .ok (.iload_n 2, 1) := by decide +kernel
theorem dX3_isBefore_33 : decode cX3_isBefore 33 = .ok (.if_icmp .ge 7, 3) := by decide +kernel
theorem dX3_isBefore_36 : decode cX3_isBefore 36 = .ok (.iconst 1, 1) := by decide +kernel
theorem dX3_isBefore_37 : decode cX3_isBefore 37 = .ok (.goto 4, 3) := by decide +kernel
theorem dX3_isBefore_40 : decode cX3_isBefore 40 = .ok (.iconst 0, 1) := by decide +kernel
theorem dX3_isBefore_41 : decode cX3_isBefore 41 = .ok (.ireturn, 1) := by decide +kernel
set_option maxRecDepth 20000 in
theorem ggX3_strengthOf_X3_area : GoodIn wsX3_strengthOf wsX3_area := goodIn_r _ [9, 10, 11, 12, 13, 14, 15, 16, 17, 35, 36, 37, 38, 39, 40, 41, 42, 43, 44, 45, 46, 47, 48, 49, 50, 51, 52] (by decide +kernel) (by decide +kernel)
set_option maxRecDepth 20000 in
theorem gX3_strengthOf_X3_area : GoodIn wsX3_strengthOf (wsV RX3 71 RX3 yX3_area wsX3_area) := goodIn_app (goodIn_of _ (by decide +kernel)) ggX3_strengthOf_X3_area
set_option maxRecDepth 20000 in
theorem ggX3_strengthOf_X3_inksPlace : GoodIn wsX3_strengthOf wsX3_inksPlace := goodIn_r _ [21, 22, 23, 24, 25, 35, 36, 37, 38, 39, 40, 41, 42, 43, 44, 45, 46, 47, 48, 49] (by decide +kernel) (by decide +kernel)
set_option maxRecDepth 20000 in
theorem gX3_strengthOf_X3_inksPlace : GoodIn wsX3_strengthOf (wsV RX3 76 RX3 yX3_inksPlace wsX3_inksPlace) := goodIn_app (goodIn_of _ (by decide +kernel)) ggX3_strengthOf_X3_inksPlace
set_option maxRecDepth 20000 in
theorem ggX3_strengthOf_X3_inkedNeighbors : GoodIn wsX3_strengthOf wsX3_inkedNeighbors := goodIn_r _ [29, 30, 31, 32, 8, 33, 34, 23, 24, 25, 18, 19, 20, 21, 22, 35, 36, 37, 38, 39, 40, 41, 42, 43, 44, 45, 46, 47, 48, 49] (by decide +kernel) (by decide +kernel)
set_option maxRecDepth 20000 in
theorem gX3_strengthOf_X3_inkedNeighbors : GoodIn wsX3_strengthOf (wsV RX3 158 RX3 yX3_inkedNeighbors wsX3_inkedNeighbors) := goodIn_app (goodIn_of _ (by decide +kernel)) ggX3_strengthOf_X3_inkedNeighbors
theorem dX3_strengthOf_0 : decode cX3_strengthOf 0 = .ok (.iconst 0, 1) := by decide +kernel
theorem dX3_strengthOf_1 : decode cX3_strengthOf 1 = .ok (.istore_n 3, 1) := by decide +kernel
theorem dX3_strengthOf_2 : decode cX3_strengthOf 2 = .ok (.iconst 0, 1) := by decide +kernel
theorem dX3_strengthOf_3 : decode cX3_strengthOf 3 = .ok (.istore 4, 2) := by decide +kernel
theorem dX3_strengthOf_5 : decode cX3_strengthOf 5 = .ok (.iload 4, 2) := by decide +kernel
theorem dX3_strengthOf_7 : decode cX3_strengthOf 7 = .ok (.aload_n 0, 1) := by decide +kernel
theorem dX3_strengthOf_8 : decode cX3_strengthOf 8 = .ok (.invokevirtual 71, 3) := by decide +kernel
theorem dX3_strengthOf_11 : decode cX3_strengthOf 11 = .ok (.if_icmp .ge 41, 3) := by decide +kernel
theorem dX3_strengthOf_14 : decode cX3_strengthOf 14 = .ok (.iload_n 3, 1) := by decide +kernel
theorem dX3_strengthOf_15 : decode cX3_strengthOf 15 = .ok (.aload_n 0, 1) := by decide +kernel
theorem dX3_strengthOf_16 : decode cX3_strengthOf 16 = .ok (.iload 4, 2) := by decide +kernel
theorem dX3_strengthOf_18 : decode cX3_strengthOf 18 = .ok (.iload_n 1, 1) := by decide +kernel
theorem dX3_strengthOf_19 : decode cX3_strengthOf 19 = .ok (.invokevirtual 76, 3) := by decide +kernel
theorem dX3_strengthOf_22 : decode cX3_strengthOf 22 = .ok (.ifCond .eq 8, 3) := by decide +kernel
theorem dX3_strengthOf_25 : decode cX3_strengthOf 25 = .ok (.bipush 100, 2) := by decide +kernel
theorem dX3_strengthOf_27 : decode cX3_strengthOf 27 = .ok (.goto 17, 3) := by decide +kernel
theorem dX3_strengthOf_30 : decode cX3_strengthOf 30 = .ok (.bipush 100, 2) := by decide +kernel
theorem dX3_strengthOf_32 : decode cX3_strengthOf 32 = .ok (.iload_n 2, 1) := by decide +kernel
theorem dX3_strengthOf_33 : decode cX3_strengthOf 33 = .ok (.aload_n 0, 1) := by decide +kernel
theorem dX3_strengthOf_34 : decode cX3_strengthOf 34 = .ok (.iload 4, 2) := by decide +kernel
theorem dX3_strengthOf_36 : decode cX3_strengthOf 36 = .ok (.iload_n 1, 1) := by decide +kernel
theorem dX3_strengthOf_37 : decode cX3_strengthOf 37 = .ok (.invokevirtual 158, 3) := by decide +kernel
theorem dX3_strengthOf_40 : decode cX3_strengthOf 40 = .ok (.imul, 1) := by decide +kernel
theorem dX3_strengthOf_41 : decode cX3_strengthOf 41 = .ok (.invokestatic 143, 3) := by decide +kernel
theorem dX3_strengthOf_44 : decode cX3_strengthOf 44 = .ok (.iadd, 1) := by decide +kernel
theorem dX3_strengthOf_45 : decode cX3_strengthOf 45 = .ok (.istore_n 3, 1) := by decide +kernel
theorem dX3_strengthOf_46 : decode cX3_strengthOf 46 = .ok (.iinc 4 1, 3) := by decide +kernel
theorem dX3_strengthOf_49 : decode cX3_strengthOf 49 = .ok (.goto (-44), 3) := by decide +kernel
theorem dX3_strengthOf_52 : decode cX3_strengthOf 52 = .ok (.iload_n 3, 1) := by decide +kernel
theorem dX3_strengthOf_53 : decode cX3_strengthOf 53 = .ok (.ireturn, 1) := by decide +kernel
set_option maxRecDepth 20000 in
theorem ggX3_inkedNeighbors_X3_neighbor : GoodIn wsX3_inkedNeighbors wsX3_neighbor := goodIn_r _ [5, 6, 7, 8, 9, 15, 16, 17, 18, 19, 20, 21, 22, 23, 24, 25, 26, 27, 28, 29] (by decide +kernel) (by decide +kernel)
set_option maxRecDepth 20000 in
theorem gX3_inkedNeighbors_X3_neighbor : GoodIn wsX3_inkedNeighbors (wsV RX3 161 RX3 yX3_neighbor wsX3_neighbor) := goodIn_app (goodIn_of _ (by decide +kernel)) ggX3_inkedNeighbors_X3_neighbor
set_option maxRecDepth 20000 in
theorem ggX3_inkedNeighbors_X3_inksPlace : GoodIn wsX3_inkedNeighbors wsX3_inksPlace := goodIn_r _ [13, 14, 7, 8, 9, 15, 16, 17, 18, 19, 20, 21, 22, 23, 24, 25, 26, 27, 28, 29] (by decide +kernel) (by decide +kernel)
set_option maxRecDepth 20000 in
theorem gX3_inkedNeighbors_X3_inksPlace : GoodIn wsX3_inkedNeighbors (wsV RX3 76 RX3 yX3_inksPlace wsX3_inksPlace) := goodIn_app (goodIn_of _ (by decide +kernel)) ggX3_inkedNeighbors_X3_inksPlace
theorem dX3_inkedNeighbors_0 : decode cX3_inkedNeighbors 0 = .ok (.iconst 0, 1) := by decide +kernel
theorem dX3_inkedNeighbors_1 : decode cX3_inkedNeighbors 1 = .ok (.istore_n 3, 1) := by decide +kernel
theorem dX3_inkedNeighbors_2 : decode cX3_inkedNeighbors 2 = .ok (.iconst 0, 1) := by decide +kernel
theorem dX3_inkedNeighbors_3 : decode cX3_inkedNeighbors 3 = .ok (.istore 4, 2) := by decide +kernel
theorem dX3_inkedNeighbors_5 : decode cX3_inkedNeighbors 5 = .ok (.iload 4, 2) := by decide +kernel
theorem dX3_inkedNeighbors_7 : decode cX3_inkedNeighbors 7 = .ok (.iconst 4, 1) := by decide +kernel
theorem dX3_inkedNeighbors_8 : decode cX3_inkedNeighbors 8 = .ok (.if_icmp .ge 27, 3) := by decide +kernel
theorem dX3_inkedNeighbors_11 : decode cX3_inkedNeighbors 11 = .ok (.aload_n 0, 1) := by decide +kernel
theorem dX3_inkedNeighbors_12 : decode cX3_inkedNeighbors 12 = .ok (.aload_n 0, 1) := by decide +kernel
theorem dX3_inkedNeighbors_13 : decode cX3_inkedNeighbors 13 = .ok (.iload_n 1, 1) := by decide +kernel
theorem dX3_inkedNeighbors_14 : decode cX3_inkedNeighbors 14 = .ok (.iload 4, 2) := by decide +kernel
theorem dX3_inkedNeighbors_16 : decode cX3_inkedNeighbors 16 = .ok (.invokevirtual 161, 3) := by decide +kernel
theorem dX3_inkedNeighbors_19 : decode cX3_inkedNeighbors 19 = .ok (.iload_n 2, 1) := by decide +kernel
theorem dX3_inkedNeighbors_20 : decode cX3_inkedNeighbors 20 = .ok (.invokevirtual 76, 3) := by decide +kernel
theorem dX3_inkedNeighbors_23 : decode cX3_inkedNeighbors 23 = .ok (.ifCond .eq 6, 3) := by decide +kernel
theorem dX3_inkedNeighbors_26 : decode cX3_inkedNeighbors 26 = .ok (.iinc 3 1, 3) := by decide +kernel
theorem dX3_inkedNeighbors_29 : decode cX3_inkedNeighbors 29 = .ok (.iinc 4 1, 3) := by decide +kernel
theorem dX3_inkedNeighbors_32 : decode cX3_inkedNeighbors 32 = .ok (.goto (-27), 3) := by decide +kernel
theorem dX3_inkedNeighbors_35 : decode cX3_inkedNeighbors 35 = .ok (.iload_n 3, 1) := by decide +kernel
theorem dX3_inkedNeighbors_36 : decode cX3_inkedNeighbors 36 = .ok (.ireturn, 1) := by decide +kernel
