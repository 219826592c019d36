theorem dX5_init_0 : decode cX5_init 0 = .ok (.aload_n 0, 1) := by decide +kernel
theorem dX5_init_1 : decode cX5_init 1 = .ok (.invokespecial 1, 3) := by decide +kernel
theorem dX5_init_4 : decode cX5_init 4 = .ok (.aload_n 0, 1) := by decide +kernel
theorem dX5_init_5 : decode cX5_init 5 = .ok (.iconst 3, 1) := by decide +kernel
theorem dX5_init_6 : decode cX5_init 6 = .ok (.newarray .boolean, 2) := by decide +kernel
theorem dX5_init_8 : decode cX5_init 8 = .ok (.putfield 7, 3) := by decide +kernel
theorem dX5_init_11 : decode cX5_init 11 = .ok (.aload_n 0, 1) := by decide +kernel
theorem dX5_init_12 : decode cX5_init 12 = .ok (.bipush 12, 2) := by decide +kernel
theorem dX5_init_14 : decode cX5_init 14 = .ok (.newarray .int, 2) := by decide +kernel
theorem dX5_init_16 : decode cX5_init 16 = .ok (.putfield 13, 3) := by decide +kernel
theorem dX5_init_19 : decode cX5_init 19 = .ok (.aload_n 0, 1) := by decide +kernel
theorem dX5_init_20 : decode cX5_init 20 = .ok (.iconst 3, 1) := by decide +kernel
theorem dX5_init_21 : decode cX5_init 21 = .ok (.newarray .int, 2) := by decide +kernel
theorem dX5_init_23 : decode cX5_init 23 = .ok (.putfield 17, 3) := by decide +kernel
theorem dX5_init_26 : decode cX5_init 26 = .ok (.aload_n 0, 1) := by decide +kernel
theorem dX5_init_27 : decode cX5_init 27 = .ok (.iconst 3, 1) := by decide +kernel
theorem dX5_init_28 : decode cX5_init 28 = .ok (.newarray .boolean, 2) := by decide +kernel
theorem dX5_init_30 : decode cX5_init 30 = .ok (.putfield 20, 3) := by decide +kernel
theorem dX5_init_33 : decode cX5_init 33 = .ok (.aload_n 0, 1) := by decide +kernel
theorem dX5_init_34 : decode cX5_init 34 = .ok (.iconst 3, 1) := by decide +kernel
theorem dX5_init_35 : decode cX5_init 35 = .ok (.newarray .int, 2) := by decide +kernel
theorem dX5_init_37 : decode cX5_init 37 = .ok (.putfield 23, 3) := by decide +kernel
theorem dX5_init_40 : decode cX5_init 40 = .ok (.aload_n 0, 1) := by decide +kernel
theorem dX5_init_41 : decode cX5_init 41 = .ok (.bipush 20, 2) := by decide +kernel
theorem dX5_init_43 : decode cX5_init 43 = .ok (.newarray .int, 2) := by decide +kernel
theorem dX5_init_45 : decode cX5_init 45 = .ok (.putfield 26, 3) := by decide +kernel
theorem dX5_init_48 : decode cX5_init 48 = .ok (.aload_n 0, 1) := by decide +kernel
theorem dX5_init_49 : decode cX5_init 49 = .ok (.bipush 64, 2) := by decide +kernel
theorem dX5_init_51 : decode cX5_init 51 = .ok (.newarray .int, 2) := by decide +kernel
theorem dX5_init_53 : decode cX5_init 53 = .ok (.putfield 29, 3) := by decide +kernel
theorem dX5_init_56 : decode cX5_init 56 = .ok (.aload_n 0, 1) := by decide +kernel
theorem dX5_init_57 : decode cX5_init 57 = .ok (.bipush 64, 2) := by decide +kernel
theorem dX5_init_59 : decode cX5_init 59 = .ok (.newarray .int, 2) := by decide +kernel
theorem dX5_init_61 : decode cX5_init 61 = .ok (.putfield 32, 3) := by decide +kernel
theorem dX5_init_64 : decode cX5_init 64 = .ok (.aload_n 0, 1) := by decide +kernel
theorem dX5_init_65 : decode cX5_init 65 = .ok (.bipush 64, 2) := by decide +kernel
theorem dX5_init_67 : decode cX5_init 67 = .ok (.newarray .int, 2) := by decide +kernel
theorem dX5_init_69 : decode cX5_init 69 = .ok (.putfield 35, 3) := by decide +kernel
theorem dX5_init_72 : decode cX5_init 72 = .ok (.aload_n 0, 1) := by decide +kernel
theorem dX5_init_73 : decode cX5_init 73 = .ok (.iconst 4, 1) := by decide +kernel
theorem dX5_init_74 : decode cX5_init 74 = .ok (.newarray .int, 2) := by decide +kernel
theorem dX5_init_76 : decode cX5_init 76 = .ok (.putfield 38, 3) := by decide +kernel
theorem dX5_init_79 : decode cX5_init 79 = .ok (.aload_n 0, 1) := by decide +kernel
theorem dX5_init_80 : decode cX5_init 80 = .ok (.sipush 192, 3) := by decide +kernel
theorem dX5_init_83 : decode cX5_init 83 = .ok (.newarray .int, 2) := by decide +kernel
theorem dX5_init_85 : decode cX5_init 85 = .ok (.putfield 41, 3) := by decide +kernel
theorem dX5_init_88 : decode cX5_init 88 = .ok (.aload_n 0, 1) := by decide +kernel
theorem dX5_init_89 : decode cX5_init 89 = .ok (.bipush 9, 2) := by decide +kernel
theorem dX5_init_91 : decode cX5_init 91 = .ok (.newarray .int, 2) := by decide +kernel
theorem dX5_init_93 : decode cX5_init 93 = .ok (.putfield 44, 3) := by decide +kernel
theorem dX5_init_96 : decode cX5_init 96 = .ok (.aload_n 0, 1) := by decide +kernel
theorem dX5_init_97 : decode cX5_init 97 = .ok (.bipush 64, 2) := by decide +kernel
theorem dX5_init_99 : decode cX5_init 99 = .ok (.newarray .boolean, 2) := by decide +kernel
theorem dX5_init_101 : decode cX5_init 101 = .ok (.putfield 47, 3) := by decide +kernel
theorem dX5_init_104 : decode cX5_init 104 = .ok (.aload_n 0, 1) := by decide +kernel
theorem dX5_init_105 : decode cX5_init 105 = .ok (.bipush 64, 2) := by decide +kernel
theorem dX5_init_107 : decode cX5_init 107 = .ok (.newarray .int, 2) := by decide +kernel
theorem dX5_init_109 : decode cX5_init 109 = .ok (.putfield 50, 3) := by decide +kernel
theorem dX5_init_112 : decode cX5_init 112 = .ok (.aload_n 0, 1) := by decide +kernel
theorem dX5_init_113 : decode cX5_init 113 = .ok (.bipush 64, 2) := by decide +kernel
theorem dX5_init_115 : decode cX5_init 115 = .ok (.newarray .int, 2) := by decide +kernel
theorem dX5_init_117 : decode cX5_init 117 = .ok (.putfield 53, 3) := by decide +kernel
theorem dX5_init_120 : decode cX5_init 120 = .ok (.aload_n 0, 1) := by decide +kernel
theorem dX5_init_121 : decode cX5_init 121 = .ok (.bipush 64, 2) := by decide +kernel
theorem dX5_init_123 : decode cX5_init 123 = .ok (.newarray .int, 2) := by decide +kernel
theorem dX5_init_125 : decode cX5_init 125 = .ok (.putfield 56, 3) := by decide +kernel
theorem dX5_init_128 : decode cX5_init 128 = .ok (.return_, 1) := by decide +kernel
theorem dX5_thrown_0 : decode cX5_thrown 0 = .ok (.aload_n 0, 1) := by decide +kernel
theorem dX5_thrown_1 : decode cX5_thrown 1 = .ok (.getfield 59, 3) := by decide +kernel
theorem dX5_thrown_4 : decode cX5_thrown 4 = .ok (.ireturn, 1) := by decide +kernel
theorem dX5_within_0 : decode cX5_within 0 = .ok (.iload_n 0, 1) := by decide +kernel
theorem dX5_within_1 : decode cX5_within 1 = .ok (.iload_n 1, 1) := by decide +kernel
theorem dX5_within_2 : decode cX5_within 2 = .ok (.if_icmp .lt 12, 3) := by decide +kernel
theorem dX5_within_5 : decode cX5_within 5 = .ok (.iload_n 0, 1) := by decide +kernel
theorem dX5_within_6 : decode cX5_within 6 = .ok (.iload_n 2, 1) := by decide +kernel
theorem dX5_within_7 : decode cX5_within 7 = .ok (.if_icmp .gt 7, 3) := by decide +kernel
theorem dX5_within_10 : decode cX5_within 10 = .ok (.iconst 1, 1) := by decide +kernel
theorem dX5_within_11 : decode cX5_within 11 = .ok (.goto 4, 3) := by decide +kernel
theorem dX5_within_14 : decode cX5_within 14 = .ok (.iconst 0, 1) := by decide +kernel
theorem dX5_within_15 : decode cX5_within 15 = .ok (.ireturn, 1) := by decide +kernel
theorem dX5_abs_0 : decode cX5_abs 0 = .ok (.iload_n 0, 1) := by decide +kernel
theorem dX5_abs_1 : decode cX5_abs 1 = .ok (.ifCond .ge 8, 3) := by decide +kernel
theorem dX5_abs_4 : decode cX5_abs 4 = .ok (.iload_n 0, 1) := by decide +kernel
theorem dX5_abs_5 : decode cX5_abs 5 = .ok (.ineg, 1) := by decide +kernel
theorem dX5_abs_6 : decode cX5_abs 6 = .ok (.goto 4, 3) := by decide +kernel
theorem dX5_abs_9 : decode cX5_abs 9 = .ok (.iload_n 0, 1) := by decide +kernel
theorem dX5_abs_10 : decode cX5_abs 10 = .ok (.ireturn, 1) := by decide +kernel
set_option maxRecDepth 20000 in
theorem ggX5_gcd_X5_abs : GoodIn wsX5_gcd wsX5_abs := goodIn_r _ [4] (by decide +kernel) (by decide +kernel)
set_option maxRecDepth 20000 in
theorem gX5_gcd_X5_abs : GoodIn wsX5_gcd (va_wsS RX5 63 yX5_abs wsX5_abs) := goodIn_app (goodIn_of _ (by decide +kernel)) ggX5_gcd_X5_abs
theorem dX5_gcd_0 : decode cX5_gcd 0 = .ok (.iload_n 0, 1) := by decide +kernel
theorem dX5_gcd_1 : decode cX5_gcd 1 = .ok (.invokestatic 63, 3) := by decide +kernel
theorem dX5_gcd_4 : decode cX5_gcd 4 = .ok (.istore_n 2, 1) := by decide +kernel
theorem dX5_gcd_5 : decode cX5_gcd 5 = .ok (.iload_n 1, 1) := by decide +kernel
theorem dX5_gcd_6 : decode cX5_gcd 6 = .ok (.invokestatic 63, 3) := by decide +kernel
theorem dX5_gcd_9 : decode cX5_gcd 9 = .ok (.istore_n 3, 1) := by decide +kernel
theorem dX5_gcd_10 : decode cX5_gcd 10 = .ok (.iload_n 3, 1) := by decide +kernel
theorem dX5_gcd_11 : decode cX5_gcd 11 = .ok (.ifCond .le 16, 3) := by decide +kernel
theorem dX5_gcd_14 : decode cX5_gcd 14 = .ok (.iload_n 2, 1) := by decide +kernel
theorem dX5_gcd_15 : decode cX5_gcd 15 = .ok (.iload_n 3, 1) := by decide +kernel
theorem dX5_gcd_16 : decode cX5_gcd 16 = .ok (.irem, 1) := by decide +kernel
theorem dX5_gcd_17 : decode cX5_gcd 17 = .ok (.istore 4, 2) := by decide +kernel
theorem dX5_gcd_19 : decode cX5_gcd 19 = .ok (.iload_n 3, 1) := by decide +kernel
theorem dX5_gcd_20 : decode cX5_gcd 20 = .ok (.istore_n 2, 1) := by decide +kernel
theorem dX5_gcd_21 : decode cX5_gcd 21 = .ok (.iload 4, 2) := by decide +kernel
theorem dX5_gcd_23 : decode cX5_gcd 23 = .ok (.istore_n 3, 1) := by decide +kernel
theorem dX5_gcd_24 : decode cX5_gcd 24 = .ok (.goto (-14), 3) := by decide +kernel
theorem dX5_gcd_27 : decode cX5_gcd 27 = .ok (.iload_n 2, 1) := by decide +kernel
theorem dX5_gcd_28 : decode cX5_gcd 28 = .ok (.ireturn, 1) := by decide +kernel
theorem dX5_mod_0 : decode cX5_mod 0 = .ok (.iload_n 0, 1) := by decide +kernel
theorem dX5_mod_1 : decode cX5_mod 1 = .ok (.iload_n 1, 1) := by decide +kernel
theorem dX5_mod_2 : decode cX5_mod 2 = .ok (.irem, 1) := by decide +kernel
theorem dX5_mod_3 : decode cX5_mod 3 = .ok (.istore_n 2, 1) := by decide +kernel
theorem dX5_mod_4 : decode cX5_mod 4 = .ok (.iload_n 2, 1) := by decide +kernel
theorem dX5_mod_5 : decode cX5_mod 5 = .ok (.ifCond .ge 9, 3) := by decide +kernel
theorem dX5_mod_8 : decode cX5_mod 8 = .ok (.iload_n 2, 1) := by decide +kernel
theorem dX5_mod_9 : decode cX5_mod 9 = .ok (.iload_n 1, 1) := by decide +kernel
theorem dX5_mod_10 : decode cX5_mod 10 = .ok (.iadd, 1) := by decide +kernel
theorem dX5_mod_11 : decode cX5_mod 11 = .ok (.goto 4, 3) := by decide +kernel
theorem dX5_mod_14 : decode cX5_mod 14 = .ok (.iload_n 2, 1) := by decide +kernel
theorem dX5_mod_15 : decode cX5_mod 15 = .ok (.ireturn, 1) := by decide +kernel
set_option maxRecDepth 20000 in
theorem ggX5_floor_X5_mod : GoodIn wsX5_floor wsX5_mod := goodIn_r _ [4] (by decide +kernel) (by decide +kernel)
set_option maxRecDepth 20000 in
theorem gX5_floor_X5_mod : GoodIn wsX5_floor (va_wsS RX5 67 yX5_mod wsX5_mod) := goodIn_app (goodIn_of _ (by decide +kernel)) ggX5_floor_X5_mod
theorem dX5_floor_0 : decode cX5_floor 0 = .ok (.iload_n 0, 1) := by decide +kernel
theorem dX5_floor_1 : decode cX5_floor 1 = .ok (.iload_n 0, 1) := by decide +kernel
theorem dX5_floor_2 : decode cX5_floor 2 = .ok (.iload_n 1, 1) := by decide +kernel
theorem dX5_floor_3 : decode cX5_floor 3 = .ok (.invokestatic 67, 3) := by decide +kernel
theorem dX5_floor_6 : decode cX5_floor 6 = .ok (.isub, 1) := by decide +kernel
theorem dX5_floor_7 : decode cX5_floor 7 = .ok (.iload_n 1, 1) := by decide +kernel
theorem dX5_floor_8 : decode cX5_floor 8 = .ok (.idiv, 1) := by decide +kernel
theorem dX5_floor_9 : decode cX5_floor 9 = .ok (.ireturn, 1) := by decide +kernel
set_option maxRecDepth 20000 in
theorem ggX5_isSlot_X5_within : GoodIn wsX5_isSlot wsX5_within := goodIn_r _ [4] (by decide +kernel) (by decide +kernel)
set_option maxRecDepth 20000 in
theorem gX5_isSlot_X5_within : GoodIn wsX5_isSlot (va_wsS RX5 71 yX5_within wsX5_within) := goodIn_app (goodIn_of _ (by decide +kernel)) ggX5_isSlot_X5_within
theorem dX5_isSlot_0 : decode cX5_isSlot 0 = .ok (.iload_n 0, 1) := by decide +kernel
theorem dX5_isSlot_1 : decode cX5_isSlot 1 = .ok (.iconst 0, 1) := by decide +kernel
theorem dX5_isSlot_2 : decode cX5_isSlot 2 = .ok (.iconst 2, 1) := by decide +kernel
theorem dX5_isSlot_3 : decode cX5_isSlot 3 = .ok (.invokestatic 71, 3) := by decide +kernel
theorem dX5_isSlot_6 : decode cX5_isSlot 6 = .ok (.ireturn, 1) := by decide +kernel
set_option maxRecDepth 20000 in
theorem ggX5_missing_X5_isSlot : GoodIn wsX5_missing wsX5_isSlot := goodIn_r _ [5, 6, 7, 4, 8] (by decide +kernel) (by decide +kernel)
set_option maxRecDepth 20000 in
theorem gX5_missing_X5_isSlot : GoodIn wsX5_missing (va_wsS RX5 75 yX5_isSlot wsX5_isSlot) := goodIn_app (goodIn_of _ (by decide +kernel)) ggX5_missing_X5_isSlot
theorem dX5_missing_0 : decode cX5_missing 0 = .ok (.iload_n 1, 1) := by decide +kernel
theorem dX5_missing_1 : decode cX5_missing 1 = .ok (.invokestatic 75, 3) := by decide +kernel
theorem dX5_missing_4 : decode cX5_missing 4 = .ok (.ifCond .ne 7, 3) := by decide +kernel
theorem dX5_missing_7 : decode cX5_missing 7 = .ok (.iconst 1, 1) := by decide +kernel
theorem dX5_missing_8 : decode cX5_missing 8 = .ok (.goto 17, 3) := by decide +kernel
theorem dX5_missing_11 : decode cX5_missing 11 = .ok (.aload_n 0, 1) := by decide +kernel
theorem dX5_missing_12 : decode cX5_missing 12 = .ok (.getfield 7, 3) := by decide +kernel
theorem dX5_missing_15 : decode cX5_missing 15 = .ok (.iload_n 1, 1) := by decide +kernel
theorem dX5_missing_16 : decode cX5_missing 16 = .ok (.baload, 1) := by decide +kernel
theorem dX5_missing_17 : decode cX5_missing 17 = .ok (.ifCond .eq 7, 3) := by decide +kernel
theorem dX5_missing_20 : decode cX5_missing 20 = .ok (.iconst 0, 1) := by decide +kernel
theorem dX5_missing_21 : decode cX5_missing 21 = .ok (.goto 4, 3) := by decide +kernel
theorem dX5_missing_24 : decode cX5_missing 24 = .ok (.iconst 2, 1) := by decide +kernel
theorem dX5_missing_25 : decode cX5_missing 25 = .ok (.ireturn, 1) := by decide +kernel
set_option maxRecDepth 20000 in
theorem ggX5_areaOf_X5_abs : GoodIn wsX5_areaOf wsX5_abs := goodIn_r _ [4] (by decide +kernel) (by decide +kernel)
set_option maxRecDepth 20000 in
theorem gX5_areaOf_X5_abs : GoodIn wsX5_areaOf (va_wsS RX5 63 yX5_abs wsX5_abs) := goodIn_app (goodIn_of _ (by decide +kernel)) ggX5_areaOf_X5_abs
theorem dX5_areaOf_0 : decode cX5_areaOf 0 = .ok (.iload_n 0, 1) := by decide +kernel
theorem dX5_areaOf_1 : decode cX5_areaOf 1 = .ok (.iload_n 3, 1) := by decide +kernel
theorem dX5_areaOf_2 : decode cX5_areaOf 2 = .ok (.imul, 1) := by decide +kernel
theorem dX5_areaOf_3 : decode cX5_areaOf 3 = .ok (.iload_n 1, 1) := by decide +kernel
theorem dX5_areaOf_4 : decode cX5_areaOf 4 = .ok (.iload_n 2, 1) := by decide +kernel
theorem dX5_areaOf_5 : decode cX5_areaOf 5 = .ok (.imul, 1) := by decide +kernel
theorem dX5_areaOf_6 : decode cX5_areaOf 6 = .ok (.isub, 1) := by decide +kernel
theorem dX5_areaOf_7 : decode cX5_areaOf 7 = .ok (.invokestatic 63, 3) := by decide +kernel
theorem dX5_areaOf_10 : decode cX5_areaOf 10 = .ok (.ireturn, 1) := by decide +kernel
set_option maxRecDepth 20000 in
theorem ggX5_layBasis_X5_gcd : GoodIn wsX5_layBasis wsX5_gcd := goodIn_r _ [7, 8, 9, 6, 10] (by decide +kernel) (by decide +kernel)
set_option maxRecDepth 20000 in
theorem gX5_layBasis_X5_gcd : GoodIn wsX5_layBasis (va_wsS RX5 79 yX5_gcd wsX5_gcd) := goodIn_app (goodIn_of _ (by decide +kernel)) ggX5_layBasis_X5_gcd
set_option maxRecDepth 20000 in
theorem ggX5_layBasis_X5_areaOf : GoodIn wsX5_layBasis wsX5_areaOf := goodIn_r _ [13, 8, 9, 6, 10] (by decide +kernel) (by decide +kernel)
set_option maxRecDepth 20000 in
theorem gX5_layBasis_X5_areaOf : GoodIn wsX5_layBasis (va_wsS RX5 85 yX5_areaOf wsX5_areaOf) := goodIn_app (goodIn_of _ (by decide +kernel)) ggX5_layBasis_X5_areaOf
set_option maxRecDepth 20000 in
theorem ggX5_layBasis_X5_mod : GoodIn wsX5_layBasis wsX5_mod := goodIn_r _ [16] (by decide +kernel) (by decide +kernel)
set_option maxRecDepth 20000 in
theorem gX5_layBasis_X5_mod : GoodIn wsX5_layBasis (va_wsS RX5 67 yX5_mod wsX5_mod) := goodIn_app (goodIn_of _ (by decide +kernel)) ggX5_layBasis_X5_mod
theorem dX5_layBasis_0 : decode cX5_layBasis 0 = .ok (.aload_n 0, 1) := by decide +kernel
theorem dX5_layBasis_1 : decode cX5_layBasis 1 = .ok (.iload_n 2, 1) := by decide +kernel
theorem dX5_layBasis_2 : decode cX5_layBasis 2 = .ok (.iload 4, 2) := by decide +kernel
theorem dX5_layBasis_4 : decode cX5_layBasis 4 = .ok (.invokestatic 79, 3) := by decide +kernel
theorem dX5_layBasis_7 : decode cX5_layBasis 7 = .ok (.putfield 82, 3) := by decide +kernel
theorem dX5_layBasis_10 : decode cX5_layBasis 10 = .ok (.aload_n 0, 1) := by decide +kernel
theorem dX5_layBasis_11 : decode cX5_layBasis 11 = .ok (.iload_n 1, 1) := by decide +kernel
theorem dX5_layBasis_12 : decode cX5_layBasis 12 = .ok (.iload_n 2, 1) := by decide +kernel
theorem dX5_layBasis_13 : decode cX5_layBasis 13 = .ok (.iload_n 3, 1) := by decide +kernel
theorem dX5_layBasis_14 : decode cX5_layBasis 14 = .ok (.iload 4, 2) := by decide +kernel
theorem dX5_layBasis_16 : decode cX5_layBasis 16 = .ok (.invokestatic 85, 3) := by decide +kernel
theorem dX5_layBasis_19 : decode cX5_layBasis 19 = .ok (.aload_n 0, 1) := by decide +kernel
theorem dX5_layBasis_20 : decode cX5_layBasis 20 = .ok (.getfield 82, 3) := by decide +kernel
theorem dX5_layBasis_23 : decode cX5_layBasis 23 = .ok (.idiv, 1) := by decide +kernel
theorem dX5_layBasis_24 : decode cX5_layBasis 24 = .ok (.putfield 89, 3) := by decide +kernel
theorem dX5_layBasis_27 : decode cX5_layBasis 27 = .ok (.iload 4, 2) := by decide +kernel
theorem dX5_layBasis_29 : decode cX5_layBasis 29 = .ok (.ifCond .ne 25, 3) := by decide +kernel
theorem dX5_layBasis_32 : decode cX5_layBasis 32 = .ok (.aload_n 0, 1) := by decide +kernel
theorem dX5_layBasis_33 : decode cX5_layBasis 33 = .ok (.iload_n 2, 1) := by decide +kernel
theorem dX5_layBasis_34 : decode cX5_layBasis 34 = .ok (.ifCond .le 7, 3) := by decide +kernel
theorem dX5_layBasis_37 : decode cX5_layBasis 37 = .ok (.iload_n 1, 1) := by decide +kernel
theorem dX5_layBasis_38 : decode cX5_layBasis 38 = .ok (.goto 5, 3) := by decide +kernel
theorem dX5_layBasis_41 : decode cX5_layBasis 41 = .ok (.iload_n 1, 1) := by decide +kernel
theorem dX5_layBasis_42 : decode cX5_layBasis 42 = .ok (.ineg, 1) := by decide +kernel
theorem dX5_layBasis_43 : decode cX5_layBasis 43 = .ok (.aload_n 0, 1) := by decide +kernel
theorem dX5_layBasis_44 : decode cX5_layBasis 44 = .ok (.getfield 89, 3) := by decide +kernel
theorem dX5_layBasis_47 : decode cX5_layBasis 47 = .ok (.invokestatic 67, 3) := by decide +kernel
theorem dX5_layBasis_50 : decode cX5_layBasis 50 = .ok (.putfield 92, 3) := by decide +kernel
theorem dX5_layBasis_53 : decode cX5_layBasis 53 = .ok (.return_, 1) := by decide +kernel
theorem dX5_layBasis_54 : decode cX5_layBasis 54 = .ok (.iconst 0, 1) := by decide +kernel
theorem dX5_layBasis_55 : decode cX5_layBasis 55 = .ok (.istore 5, 2) := by decide +kernel
theorem dX5_layBasis_57 : decode cX5_layBasis 57 = .ok (.aload_n 0, 1) := by decide +kernel
theorem dX5_layBasis_58 : decode cX5_layBasis 58 = .ok (.getfield 82, 3) := by decide +kernel
theorem dX5_layBasis_61 : decode cX5_layBasis 61 = .ok (.iload 5, 2) := by decide +kernel
theorem dX5_layBasis_63 : decode cX5_layBasis 63 = .ok (.iload_n 2, 1) := by decide +kernel
theorem dX5_layBasis_64 : decode cX5_layBasis 64 = .ok (.imul, 1) := by decide +kernel
theorem dX5_layBasis_65 : decode cX5_layBasis 65 = .ok (.isub, 1) := by decide +kernel
theorem dX5_layBasis_66 : decode cX5_layBasis 66 = .ok (.iload 4, 2) := by decide +kernel
theorem dX5_layBasis_68 : decode cX5_layBasis 68 = .ok (.irem, 1) := by decide +kernel
theorem dX5_layBasis_69 : decode cX5_layBasis 69 = .ok (.ifCond .eq 9, 3) := by decide +kernel
theorem dX5_layBasis_72 : decode cX5_layBasis 72 = .ok (.iinc 5 1, 3) := by decide +kernel
theorem dX5_layBasis_75 : decode cX5_layBasis 75 = .ok (.goto (-18), 3) := by decide +kernel
theorem dX5_layBasis_78 : decode cX5_layBasis 78 = .ok (.aload_n 0, 1) := by decide +kernel
theorem dX5_layBasis_79 : decode cX5_layBasis 79 = .ok (.iload 5, 2) := by decide +kernel
theorem dX5_layBasis_81 : decode cX5_layBasis 81 = .ok (.iload_n 1, 1) := by decide +kernel
theorem dX5_layBasis_82 : decode cX5_layBasis 82 = .ok (.imul, 1) := by decide +kernel
theorem dX5_layBasis_83 : decode cX5_layBasis 83 = .ok (.aload_n 0, 1) := by decide +kernel
theorem dX5_layBasis_84 : decode cX5_layBasis 84 = .ok (.getfield 82, 3) := by decide +kernel
theorem dX5_layBasis_87 : decode cX5_layBasis 87 = .ok (.iload 5, 2) := by decide +kernel
theorem dX5_layBasis_89 : decode cX5_layBasis 89 = .ok (.iload_n 2, 1) := by decide +kernel
theorem dX5_layBasis_90 : decode cX5_layBasis 90 = .ok (.imul, 1) := by decide +kernel
theorem dX5_layBasis_91 : decode cX5_layBasis 91 = .ok (.isub, 1) := by decide +kernel
theorem dX5_layBasis_92 : decode cX5_layBasis 92 = .ok (.iload 4, 2) := by decide +kernel
theorem dX5_layBasis_94 : decode cX5_layBasis 94 = .ok (.idiv, 1) := by decide +kernel
theorem dX5_layBasis_95 : decode cX5_layBasis 95 = .ok (.iload_n 3, 1) := by decide +kernel
theorem dX5_layBasis_96 : decode cX5_layBasis 96 = .ok (.imul, 1) := by decide +kernel
theorem dX5_layBasis_97 : decode cX5_layBasis 97 = .ok (.iadd, 1) := by decide +kernel
theorem dX5_layBasis_98 : decode cX5_layBasis 98 = .ok (.aload_n 0, 1) := by decide +kernel
theorem dX5_layBasis_99 : decode cX5_layBasis 99 = .ok (.getfield 89, 3) := by decide +kernel
theorem dX5_layBasis_102 : decode cX5_layBasis 102 = .ok (.invokestatic 67, 3) := by decide +kernel
theorem dX5_layBasis_105 : decode cX5_layBasis 105 = .ok (.putfield 92, 3) := by decide +kernel
theorem dX5_layBasis_108 : decode cX5_layBasis 108 = .ok (.return_, 1) := by decide +kernel
set_option maxRecDepth 20000 in
theorem ggX5_layScreen_X5_layBasis : GoodIn wsX5_layScreen wsX5_layBasis := goodIn_r _ [6, 7, 8, 9, 10, 11, 5, 12, 13, 14, 15, 16, 17, 18, 19, 20, 21, 22, 23, 24, 25, 26, 27, 28, 29, 30, 31, 32, 33, 34, 35, 36, 37, 38, 39, 40, 41, 42, 43, 44, 45, 46, 47, 48, 49, 50, 51, 52, 53, 54, 55, 56] (by decide +kernel) (by decide +kernel)
set_option maxRecDepth 20000 in
theorem gX5_layScreen_X5_layBasis : GoodIn wsX5_layScreen (wsV RX5 95 RX5 yX5_layBasis wsX5_layBasis) := goodIn_app (goodIn_of _ (by decide +kernel)) ggX5_layScreen_X5_layBasis
theorem dX5_layScreen_0 : decode cX5_layScreen 0 = .ok (.iconst 4, 1) := by decide +kernel
theorem dX5_layScreen_1 : decode cX5_layScreen 1 = .ok (.iload_n 1, 1) := by decide +kernel
theorem dX5_layScreen_2 : decode cX5_layScreen 2 = .ok (.imul, 1) := by decide +kernel
theorem dX5_layScreen_3 : decode cX5_layScreen 3 = .ok (.istore_n 2, 1) := by decide +kernel
theorem dX5_layScreen_4 : decode cX5_layScreen 4 = .ok (.aload_n 0, 1) := by decide +kernel
theorem dX5_layScreen_5 : decode cX5_layScreen 5 = .ok (.aload_n 0, 1) := by decide +kernel
theorem dX5_layScreen_6 : decode cX5_layScreen 6 = .ok (.getfield 13, 3) := by decide +kernel
theorem dX5_layScreen_9 : decode cX5_layScreen 9 = .ok (.iload_n 2, 1) := by decide +kernel
theorem dX5_layScreen_10 : decode cX5_layScreen 10 = .ok (.iaload, 1) := by decide +kernel
theorem dX5_layScreen_11 : decode cX5_layScreen 11 = .ok (.aload_n 0, 1) := by decide +kernel
theorem dX5_layScreen_12 : decode cX5_layScreen 12 = .ok (.getfield 13, 3) := by decide +kernel
theorem dX5_layScreen_15 : decode cX5_layScreen 15 = .ok (.iload_n 2, 1) := by decide +kernel
theorem dX5_layScreen_16 : decode cX5_layScreen 16 = .ok (.iconst 1, 1) := by decide +kernel
theorem dX5_layScreen_17 : decode cX5_layScreen 17 = .ok (.iadd, 1) := by decide +kernel
theorem dX5_layScreen_18 : decode cX5_layScreen 18 = .ok (.iaload, 1) := by decide +kernel
theorem dX5_layScreen_19 : decode cX5_layScreen 19 = .ok (.aload_n 0, 1) := by decide +kernel
theorem dX5_layScreen_20 : decode cX5_layScreen 20 = .ok (.getfield 13, 3) := by decide +kernel
theorem dX5_layScreen_23 : decode cX5_layScreen 23 = .ok (.iload_n 2, 1) := by decide +kernel
theorem dX5_layScreen_24 : decode cX5_layScreen 24 = .ok (.iconst 2, 1) := by decide +kernel
theorem dX5_layScreen_25 : decode cX5_layScreen 25 = .ok (.iadd, 1) := by decide +kernel
theorem dX5_layScreen_26 : decode cX5_layScreen 26 = .ok (.iaload, 1) := by decide +kernel
theorem dX5_layScreen_27 : decode cX5_layScreen 27 = .ok (.aload_n 0, 1) := by decide +kernel
theorem dX5_layScreen_28 : decode cX5_layScreen 28 = .ok (.getfield 13, 3) := by decide +kernel
theorem dX5_layScreen_31 : decode cX5_layScreen 31 = .ok (.iload_n 2, 1) := by decide +kernel
theorem dX5_layScreen_32 : decode cX5_layScreen 32 = .ok (.iconst 3, 1) := by decide +kernel
theorem dX5_layScreen_33 : decode cX5_layScreen 33 = .ok (.iadd, 1) := by decide +kernel
theorem dX5_layScreen_34 : decode cX5_layScreen 34 = .ok (.iaload, 1) := by decide +kernel
theorem dX5_layScreen_35 : decode cX5_layScreen 35 = .ok (.invokevirtual 95, 3) := by decide +kernel
theorem dX5_layScreen_38 : decode cX5_layScreen 38 = .ok (.return_, 1) := by decide +kernel
set_option maxRecDepth 20000 in
theorem ggX5_areaIn_X5_areaOf : GoodIn wsX5_areaIn wsX5_areaOf := goodIn_r _ [5, 6, 7, 4, 8] (by decide +kernel) (by decide +kernel)
set_option maxRecDepth 20000 in
theorem gX5_areaIn_X5_areaOf : GoodIn wsX5_areaIn (va_wsS RX5 85 yX5_areaOf wsX5_areaOf) := goodIn_app (goodIn_of _ (by decide +kernel)) ggX5_areaIn_X5_areaOf
theorem dX5_areaIn_0 : decode cX5_areaIn 0 = .ok (.aload_n 0, 1) := by decide +kernel
theorem dX5_areaIn_1 : decode cX5_areaIn 1 = .ok (.getfield 13, 3) := by decide +kernel
theorem dX5_areaIn_4 : decode cX5_areaIn 4 = .ok (.iconst 4, 1) := by decide +kernel
theorem dX5_areaIn_5 : decode cX5_areaIn 5 = .ok (.iload_n 1, 1) := by decide +kernel
theorem dX5_areaIn_6 : decode cX5_areaIn 6 = .ok (.imul, 1) := by decide +kernel
theorem dX5_areaIn_7 : decode cX5_areaIn 7 = .ok (.iaload, 1) := by decide +kernel
theorem dX5_areaIn_8 : decode cX5_areaIn 8 = .ok (.aload_n 0, 1) := by decide +kernel
theorem dX5_areaIn_9 : decode cX5_areaIn 9 = .ok (.getfield 13, 3) := by decide +kernel
theorem dX5_areaIn_12 : decode cX5_areaIn 12 = .ok (.iconst 4, 1) := by decide +kernel
theorem dX5_areaIn_13 : decode cX5_areaIn 13 = .ok (.iload_n 1, 1) := by decide +kernel
theorem dX5_areaIn_14 : decode cX5_areaIn 14 = .ok (.imul, 1) := by decide +kernel
theorem dX5_areaIn_15 : decode cX5_areaIn 15 = .ok (.iconst 1, 1) := by decide +kernel
theorem dX5_areaIn_16 : decode cX5_areaIn 16 = .ok (.iadd, 1) := by decide +kernel
theorem dX5_areaIn_17 : decode cX5_areaIn 17 = .ok (.iaload, 1) := by decide +kernel
theorem dX5_areaIn_18 : decode cX5_areaIn 18 = .ok (.aload_n 0, 1) := by decide +kernel
theorem dX5_areaIn_19 : decode cX5_areaIn 19 = .ok (.getfield 13, 3) := by decide +kernel
theorem dX5_areaIn_22 : decode cX5_areaIn 22 = .ok (.iconst 4, 1) := by decide +kernel
theorem dX5_areaIn_23 : decode cX5_areaIn 23 = .ok (.iload_n 1, 1) := by decide +kernel
theorem dX5_areaIn_24 : decode cX5_areaIn 24 = .ok (.imul, 1) := by decide +kernel
theorem dX5_areaIn_25 : decode cX5_areaIn 25 = .ok (.iconst 2, 1) := by decide +kernel
theorem dX5_areaIn_26 : decode cX5_areaIn 26 = .ok (.iadd, 1) := by decide +kernel
theorem dX5_areaIn_27 : decode cX5_areaIn 27 = .ok (.iaload, 1) := by decide +kernel
theorem dX5_areaIn_28 : decode cX5_areaIn 28 = .ok (.aload_n 0, 1) := by decide +kernel
theorem dX5_areaIn_29 : decode cX5_areaIn 29 = .ok (.getfield 13, 3) := by decide +kernel
theorem dX5_areaIn_32 : decode cX5_areaIn 32 = .ok (.iconst 4, 1) := by decide +kernel
theorem dX5_areaIn_33 : decode cX5_areaIn 33 = .ok (.iload_n 1, 1) := by decide +kernel
theorem dX5_areaIn_34 : decode cX5_areaIn 34 = .ok (.imul, 1) := by decide +kernel
theorem dX5_areaIn_35 : decode cX5_areaIn 35 = .ok (.iconst 3, 1) := by decide +kernel
theorem dX5_areaIn_36 : decode cX5_areaIn 36 = .ok (.iadd, 1) := by decide +kernel
theorem dX5_areaIn_37 : decode cX5_areaIn 37 = .ok (.iaload, 1) := by decide +kernel
theorem dX5_areaIn_38 : decode cX5_areaIn 38 = .ok (.invokestatic 85, 3) := by decide +kernel
theorem dX5_areaIn_41 : decode cX5_areaIn 41 = .ok (.ireturn, 1) := by decide +kernel
set_option maxRecDepth 20000 in
theorem ggX5_placeAt_X5_floor : GoodIn wsX5_placeAt wsX5_floor := goodIn_r _ [7, 8, 9, 6, 10] (by decide +kernel) (by decide +kernel)
set_option maxRecDepth 20000 in
theorem gX5_placeAt_X5_floor : GoodIn wsX5_placeAt (va_wsS RX5 99 yX5_floor wsX5_floor) := goodIn_app (goodIn_of _ (by decide +kernel)) ggX5_placeAt_X5_floor
set_option maxRecDepth 20000 in
theorem ggX5_placeAt_X5_mod : GoodIn wsX5_placeAt wsX5_mod := goodIn_r _ [10] (by decide +kernel) (by decide +kernel)
set_option maxRecDepth 20000 in
theorem gX5_placeAt_X5_mod : GoodIn wsX5_placeAt (va_wsS RX5 67 yX5_mod wsX5_mod) := goodIn_app (goodIn_of _ (by decide +kernel)) ggX5_placeAt_X5_mod
theorem dX5_placeAt_0 : decode cX5_placeAt 0 = .ok (.iload_n 2, 1) := by decide +kernel
theorem dX5_placeAt_1 : decode cX5_placeAt 1 = .ok (.aload_n 0, 1) := by decide +kernel
theorem dX5_placeAt_2 : decode cX5_placeAt 2 = .ok (.getfield 82, 3) := by decide +kernel
theorem dX5_placeAt_5 : decode cX5_placeAt 5 = .ok (.invokestatic 99, 3) := by decide +kernel
theorem dX5_placeAt_8 : decode cX5_placeAt 8 = .ok (.istore_n 3, 1) := by decide +kernel
theorem dX5_placeAt_9 : decode cX5_placeAt 9 = .ok (.iload_n 2, 1) := by decide +kernel
theorem dX5_placeAt_10 : decode cX5_placeAt 10 = .ok (.iload_n 3, 1) := by decide +kernel
theorem dX5_placeAt_11 : decode cX5_placeAt 11 = .ok (.aload_n 0, 1) := by decide +kernel
theorem dX5_placeAt_12 : decode cX5_placeAt 12 = .ok (.getfield 82, 3) := by decide +kernel
theorem dX5_placeAt_15 : decode cX5_placeAt 15 = .ok (.imul, 1) := by decide +kernel
theorem dX5_placeAt_16 : decode cX5_placeAt 16 = .ok (.isub, 1) := by decide +kernel
theorem dX5_placeAt_17 : decode cX5_placeAt 17 = .ok (.aload_n 0, 1) := by decide +kernel
theorem dX5_placeAt_18 : decode cX5_placeAt 18 = .ok (.getfield 89, 3) := by decide +kernel
theorem dX5_placeAt_21 : decode cX5_placeAt 21 = .ok (.imul, 1) := by decide +kernel
theorem dX5_placeAt_22 : decode cX5_placeAt 22 = .ok (.iload_n 1, 1) := by decide +kernel
theorem dX5_placeAt_23 : decode cX5_placeAt 23 = .ok (.iload_n 3, 1) := by decide +kernel
theorem dX5_placeAt_24 : decode cX5_placeAt 24 = .ok (.aload_n 0, 1) := by decide +kernel
theorem dX5_placeAt_25 : decode cX5_placeAt 25 = .ok (.getfield 92, 3) := by decide +kernel
theorem dX5_placeAt_28 : decode cX5_placeAt 28 = .ok (.imul, 1) := by decide +kernel
theorem dX5_placeAt_29 : decode cX5_placeAt 29 = .ok (.isub, 1) := by decide +kernel
theorem dX5_placeAt_30 : decode cX5_placeAt 30 = .ok (.aload_n 0, 1) := by decide +kernel
theorem dX5_placeAt_31 : decode cX5_placeAt 31 = .ok (.getfield 89, 3) := by decide +kernel
theorem dX5_placeAt_34 : decode cX5_placeAt 34 = .ok (.invokestatic 67, 3) := by decide +kernel
theorem dX5_placeAt_37 : decode cX5_placeAt 37 = .ok (.iadd, 1) := by decide +kernel
theorem dX5_placeAt_38 : decode cX5_placeAt 38 = .ok (.ireturn, 1) := by decide +kernel
set_option maxRecDepth 20000 in
theorem ggX5_nearestValue_X5_floor : GoodIn wsX5_nearestValue wsX5_floor := goodIn_r _ [7, 8, 9, 6, 10] (by decide +kernel) (by decide +kernel)
set_option maxRecDepth 20000 in
theorem gX5_nearestValue_X5_floor : GoodIn wsX5_nearestValue (va_wsS RX5 99 yX5_floor wsX5_floor) := goodIn_app (goodIn_of _ (by decide +kernel)) ggX5_nearestValue_X5_floor
set_option maxRecDepth 20000 in
theorem ggX5_nearestValue_X5_mod : GoodIn wsX5_nearestValue wsX5_mod := goodIn_r _ [10] (by decide +kernel) (by decide +kernel)
set_option maxRecDepth 20000 in
theorem gX5_nearestValue_X5_mod : GoodIn wsX5_nearestValue (va_wsS RX5 67 yX5_mod wsX5_mod) := goodIn_app (goodIn_of _ (by decide +kernel)) ggX5_nearestValue_X5_mod
set_option maxRecDepth 20000 in
theorem ggX5_nearestValue_X5_abs : GoodIn wsX5_nearestValue wsX5_abs := goodIn_r _ [13] (by decide +kernel) (by decide +kernel)
set_option maxRecDepth 20000 in
theorem gX5_nearestValue_X5_abs : GoodIn wsX5_nearestValue (va_wsS RX5 63 yX5_abs wsX5_abs) := goodIn_app (goodIn_of _ (by decide +kernel)) ggX5_nearestValue_X5_abs
theorem dX5_nearestValue_0 : decode cX5_nearestValue 0 = .ok (.iconst (-1), 1) := by decide +kernel
theorem dX5_nearestValue_1 : decode cX5_nearestValue 1 = .ok (.istore 6, 2) := by decide +kernel
theorem dX5_nearestValue_3 : decode cX5_nearestValue 3 = .ok (.iconst 2, 1) := by decide +kernel
theorem dX5_nearestValue_4 : decode cX5_nearestValue 4 = .ok (.iload_n 2, 1) := by decide +kernel
theorem dX5_nearestValue_5 : decode cX5_nearestValue 5 = .ok (.imul, 1) := by decide +kernel
theorem dX5_nearestValue_6 : decode cX5_nearestValue 6 = .ok (.iload 4, 2) := by decide +kernel
theorem dX5_nearestValue_8 : decode cX5_nearestValue 8 = .ok (.isub, 1) := by decide +kernel
theorem dX5_nearestValue_9 : decode cX5_nearestValue 9 = .ok (.aload_n 0, 1) := by decide +kernel
theorem dX5_nearestValue_10 : decode cX5_nearestValue 10 = .ok (.getfield 89, 3) := by decide +kernel
theorem dX5_nearestValue_13 : decode cX5_nearestValue 13 = .ok (.isub, 1) := by decide +kernel
theorem dX5_nearestValue_14 : decode cX5_nearestValue 14 = .ok (.aload_n 0, 1) := by decide +kernel
theorem dX5_nearestValue_15 : decode cX5_nearestValue 15 = .ok (.getfield 82, 3) := by decide +kernel
theorem dX5_nearestValue_18 : decode cX5_nearestValue 18 = .ok (.isub, 1) := by decide +kernel
theorem dX5_nearestValue_19 : decode cX5_nearestValue 19 = .ok (.iconst 2, 1) := by decide +kernel
theorem dX5_nearestValue_20 : decode cX5_nearestValue 20 = .ok (.aload_n 0, 1) := by decide +kernel
theorem dX5_nearestValue_21 : decode cX5_nearestValue 21 = .ok (.getfield 82, 3) := by decide +kernel
theorem dX5_nearestValue_24 : decode cX5_nearestValue 24 = .ok (.imul, 1) := by decide +kernel
theorem dX5_nearestValue_25 : decode cX5_nearestValue 25 = .ok (.invokestatic 99, 3) := by decide +kernel
theorem dX5_nearestValue_28 : decode cX5_nearestValue 28 = .ok (.istore 7, 2) := by decide +kernel
theorem dX5_nearestValue_30 : decode cX5_nearestValue 30 = .ok (.iconst 2, 1) := by decide +kernel
theorem dX5_nearestValue_31 : decode cX5_nearestValue 31 = .ok (.iload_n 2, 1) := by decide +kernel
theorem dX5_nearestValue_32 : decode cX5_nearestValue 32 = .ok (.imul, 1) := by decide +kernel
theorem dX5_nearestValue_33 : decode cX5_nearestValue 33 = .ok (.iload 4, 2) := by decide +kernel
theorem dX5_nearestValue_35 : decode cX5_nearestValue 35 = .ok (.isub, 1) := by decide +kernel
theorem dX5_nearestValue_36 : decode cX5_nearestValue 36 = .ok (.aload_n 0, 1) := by decide +kernel
theorem dX5_nearestValue_37 : decode cX5_nearestValue 37 = .ok (.getfield 89, 3) := by decide +kernel
theorem dX5_nearestValue_40 : decode cX5_nearestValue 40 = .ok (.iadd, 1) := by decide +kernel
theorem dX5_nearestValue_41 : decode cX5_nearestValue 41 = .ok (.aload_n 0, 1) := by decide +kernel
theorem dX5_nearestValue_42 : decode cX5_nearestValue 42 = .ok (.getfield 82, 3) := by decide +kernel
theorem dX5_nearestValue_45 : decode cX5_nearestValue 45 = .ok (.iadd, 1) := by decide +kernel
theorem dX5_nearestValue_46 : decode cX5_nearestValue 46 = .ok (.iconst 2, 1) := by decide +kernel
theorem dX5_nearestValue_47 : decode cX5_nearestValue 47 = .ok (.aload_n 0, 1) := by decide +kernel
theorem dX5_nearestValue_48 : decode cX5_nearestValue 48 = .ok (.getfield 82, 3) := by decide +kernel
theorem dX5_nearestValue_51 : decode cX5_nearestValue 51 = .ok (.imul, 1) := by decide +kernel
theorem dX5_nearestValue_52 : decode cX5_nearestValue 52 = .ok (.invokestatic 99, 3) := by decide +kernel
theorem dX5_nearestValue_55 : decode cX5_nearestValue 55 = .ok (.iconst 1, 1) := by decide +kernel
theorem dX5_nearestValue_56 : decode cX5_nearestValue 56 = .ok (.iadd, 1) := by decide +kernel
theorem dX5_nearestValue_57 : decode cX5_nearestValue 57 = .ok (.istore 8, 2) := by decide +kernel
theorem dX5_nearestValue_59 : decode cX5_nearestValue 59 = .ok (.iload 7, 2) := by decide +kernel
theorem dX5_nearestValue_61 : decode cX5_nearestValue 61 = .ok (.istore 9, 2) := by decide +kernel
theorem dX5_nearestValue_63 : decode cX5_nearestValue 63 = .ok (.iload 9, 2) := by decide +kernel
theorem dX5_nearestValue_65 : decode cX5_nearestValue 65 = .ok (.iload 8, 2) := by decide +kernel
theorem dX5_nearestValue_67 : decode cX5_nearestValue 67 = .ok (.if_icmp .gt 157, 3) := by decide +kernel
theorem dX5_nearestValue_70 : decode cX5_nearestValue 70 = .ok (.iconst 2, 1) := by decide +kernel
theorem dX5_nearestValue_71 : decode cX5_nearestValue 71 = .ok (.iload_n 1, 1) := by decide +kernel
theorem dX5_nearestValue_72 : decode cX5_nearestValue 72 = .ok (.imul, 1) := by decide +kernel
theorem dX5_nearestValue_73 : decode cX5_nearestValue 73 = .ok (.iload_n 3, 1) := by decide +kernel
theorem dX5_nearestValue_74 : decode cX5_nearestValue 74 = .ok (.isub, 1) := by decide +kernel
theorem dX5_nearestValue_75 : decode cX5_nearestValue 75 = .ok (.iconst 2, 1) := by decide +kernel
theorem dX5_nearestValue_76 : decode cX5_nearestValue 76 = .ok (.iload 9, 2) := by decide +kernel
theorem dX5_nearestValue_78 : decode cX5_nearestValue 78 = .ok (.imul, 1) := by decide +kernel
theorem dX5_nearestValue_79 : decode cX5_nearestValue 79 = .ok (.aload_n 0, 1) := by decide +kernel
theorem dX5_nearestValue_80 : decode cX5_nearestValue 80 = .ok (.getfield 92, 3) := by decide +kernel
theorem dX5_nearestValue_83 : decode cX5_nearestValue 83 = .ok (.imul, 1) := by decide +kernel
theorem dX5_nearestValue_84 : decode cX5_nearestValue 84 = .ok (.isub, 1) := by decide +kernel
theorem dX5_nearestValue_85 : decode cX5_nearestValue 85 = .ok (.iconst 2, 1) := by decide +kernel
theorem dX5_nearestValue_86 : decode cX5_nearestValue 86 = .ok (.aload_n 0, 1) := by decide +kernel
theorem dX5_nearestValue_87 : decode cX5_nearestValue 87 = .ok (.getfield 89, 3) := by decide +kernel
theorem dX5_nearestValue_90 : decode cX5_nearestValue 90 = .ok (.imul, 1) := by decide +kernel
theorem dX5_nearestValue_91 : decode cX5_nearestValue 91 = .ok (.invokestatic 67, 3) := by decide +kernel
theorem dX5_nearestValue_94 : decode cX5_nearestValue 94 = .ok (.istore 10, 2) := by decide +kernel
theorem dX5_nearestValue_96 : decode cX5_nearestValue 96 = .ok (.iload 10, 2) := by decide +kernel
theorem dX5_nearestValue_98 : decode cX5_nearestValue 98 = .ok (.iconst 2, 1) := by decide +kernel
theorem dX5_nearestValue_99 : decode cX5_nearestValue 99 = .ok (.aload_n 0, 1) := by decide +kernel
theorem dX5_nearestValue_100 : decode cX5_nearestValue 100 = .ok (.getfield 89, 3) := by decide +kernel
theorem dX5_nearestValue_103 : decode cX5_nearestValue 103 = .ok (.imul, 1) := by decide +kernel
theorem dX5_nearestValue_104 : decode cX5_nearestValue 104 = .ok (.iload 10, 2) := by decide +kernel
theorem dX5_nearestValue_106 : decode cX5_nearestValue 106 = .ok (.isub, 1) := by decide +kernel
theorem dX5_nearestValue_107 : decode cX5_nearestValue 107 = .ok (.if_icmp .ge 8, 3) := by decide +kernel
theorem dX5_nearestValue_110 : decode cX5_nearestValue 110 = .ok (.iload 10, 2) := by decide +kernel
theorem dX5_nearestValue_112 : decode cX5_nearestValue 112 = .ok (.goto 12, 3) := by decide +kernel
theorem dX5_nearestValue_115 : decode cX5_nearestValue 115 = .ok (.iconst 2, 1) := by decide +kernel
theorem dX5_nearestValue_116 : decode cX5_nearestValue 116 = .ok (.aload_n 0, 1) := by decide +kernel
theorem dX5_nearestValue_117 : decode cX5_nearestValue 117 = .ok (.getfield 89, 3) := by decide +kernel
theorem dX5_nearestValue_120 : decode cX5_nearestValue 120 = .ok (.imul, 1) := by decide +kernel
theorem dX5_nearestValue_121 : decode cX5_nearestValue 121 = .ok (.iload 10, 2) := by decide +kernel
theorem dX5_nearestValue_123 : decode cX5_nearestValue 123 = .ok (.isub, 1) := by decide +kernel
theorem dX5_nearestValue_124 : decode cX5_nearestValue 124 = .ok (.istore 11, 2) := by decide +kernel
theorem dX5_nearestValue_126 : decode cX5_nearestValue 126 = .ok (.iconst 2, 1) := by decide +kernel
theorem dX5_nearestValue_127 : decode cX5_nearestValue 127 = .ok (.iload_n 2, 1) := by decide +kernel
theorem dX5_nearestValue_128 : decode cX5_nearestValue 128 = .ok (.imul, 1) := by decide +kernel
theorem dX5_nearestValue_129 : decode cX5_nearestValue 129 = .ok (.iload 4, 2) := by decide +kernel
theorem dX5_nearestValue_131 : decode cX5_nearestValue 131 = .ok (.isub, 1) := by decide +kernel
theorem dX5_nearestValue_132 : decode cX5_nearestValue 132 = .ok (.iconst 2, 1) := by decide +kernel
theorem dX5_nearestValue_133 : decode cX5_nearestValue 133 = .ok (.iload 9, 2) := by decide +kernel
theorem dX5_nearestValue_135 : decode cX5_nearestValue 135 = .ok (.imul, 1) := by decide +kernel
theorem dX5_nearestValue_136 : decode cX5_nearestValue 136 = .ok (.aload_n 0, 1) := by decide +kernel
theorem dX5_nearestValue_137 : decode cX5_nearestValue 137 = .ok (.getfield 82, 3) := by decide +kernel
theorem dX5_nearestValue_140 : decode cX5_nearestValue 140 = .ok (.imul, 1) := by decide +kernel
theorem dX5_nearestValue_141 : decode cX5_nearestValue 141 = .ok (.isub, 1) := by decide +kernel
theorem dX5_nearestValue_142 : decode cX5_nearestValue 142 = .ok (.invokestatic 63, 3) := by decide +kernel
theorem dX5_nearestValue_145 : decode cX5_nearestValue 145 = .ok (.istore 12, 2) := by decide +kernel
theorem dX5_nearestValue_147 : decode cX5_nearestValue 147 = .ok (.iload 5, 2) := by decide +kernel
theorem dX5_nearestValue_149 : decode cX5_nearestValue 149 = .ok (.ifCond .ne 17, 3) := by decide +kernel
theorem dX5_nearestValue_152 : decode cX5_nearestValue 152 = .ok (.iload 11, 2) := by decide +kernel
theorem dX5_nearestValue_154 : decode cX5_nearestValue 154 = .ok (.iload 11, 2) := by decide +kernel
theorem dX5_nearestValue_156 : decode cX5_nearestValue 156 = .ok (.imul, 1) := by decide +kernel
theorem dX5_nearestValue_157 : decode cX5_nearestValue 157 = .ok (.iload 12, 2) := by decide +kernel
theorem dX5_nearestValue_159 : decode cX5_nearestValue 159 = .ok (.iload 12, 2) := by decide +kernel
theorem dX5_nearestValue_161 : decode cX5_nearestValue 161 = .ok (.imul, 1) := by decide +kernel
theorem dX5_nearestValue_162 : decode cX5_nearestValue 162 = .ok (.iadd, 1) := by decide +kernel
theorem dX5_nearestValue_163 : decode cX5_nearestValue 163 = .ok (.goto 31, 3) := by decide +kernel
theorem dX5_nearestValue_166 : decode cX5_nearestValue 166 = .ok (.iload 5, 2) := by decide +kernel
theorem dX5_nearestValue_168 : decode cX5_nearestValue 168 = .ok (.iconst 1, 1) := by decide +kernel
theorem dX5_nearestValue_169 : decode cX5_nearestValue 169 = .ok (.if_icmp .ne 11, 3) := by decide +kernel
theorem dX5_nearestValue_172 : decode cX5_nearestValue 172 = .ok (.iload 11, 2) := by decide +kernel
theorem dX5_nearestValue_174 : decode cX5_nearestValue 174 = .ok (.iload 12, 2) := by decide +kernel
theorem dX5_nearestValue_176 : decode cX5_nearestValue 176 = .ok (.iadd, 1) := by decide +kernel
theorem dX5_nearestValue_177 : decode cX5_nearestValue 177 = .ok (.goto 17, 3) := by decide +kernel
theorem dX5_nearestValue_180 : decode cX5_nearestValue 180 = .ok (.iload 11, 2) := by decide +kernel
theorem dX5_nearestValue_182 : decode cX5_nearestValue 182 = .ok (.iload 12, 2) := by decide +kernel
theorem dX5_nearestValue_184 : decode cX5_nearestValue 184 = .ok (.if_icmp .le 8, 3) := by decide +kernel
theorem dX5_nearestValue_187 : decode cX5_nearestValue 187 = .ok (.iload 11, 2) := by decide +kernel
theorem dX5_nearestValue_189 : decode cX5_nearestValue 189 = .ok (.goto 5, 3) := by decide +kernel
theorem dX5_nearestValue_192 : decode cX5_nearestValue 192 = .ok (.iload 12, 2) := by decide +kernel
theorem dX5_nearestValue_194 : decode cX5_nearestValue 194 = .ok (.istore 13, 2) := by decide +kernel
theorem dX5_nearestValue_196 : decode cX5_nearestValue 196 = .ok (.iload 6, 2) := by decide +kernel
theorem dX5_nearestValue_198 : decode cX5_nearestValue 198 = .ok (.iconst (-1), 1) := by decide +kernel
theorem dX5_nearestValue_199 : decode cX5_nearestValue 199 = .ok (.if_icmp .eq 10, 3) := by decide +kernel
theorem dX5_nearestValue_202 : decode cX5_nearestValue 202 = .ok (.iload 13, 2) := by decide +kernel
theorem dX5_nearestValue_204 : decode cX5_nearestValue 204 = .ok (.iload 6, 2) := by decide +kernel
theorem dX5_nearestValue_206 : decode cX5_nearestValue 206 = .ok (.if_icmp .ge 8, 3) := by decide +kernel
theorem dX5_nearestValue_209 : decode cX5_nearestValue 209 = .ok (.iload 13, 2) := by decide +kernel
theorem dX5_nearestValue_211 : decode cX5_nearestValue 211 = .ok (.goto 5, 3) := by decide +kernel
theorem dX5_nearestValue_214 : decode cX5_nearestValue 214 = .ok (.iload 6, 2) := by decide +kernel
theorem dX5_nearestValue_216 : decode cX5_nearestValue 216 = .ok (.istore 6, 2) := by decide +kernel
theorem dX5_nearestValue_218 : decode cX5_nearestValue 218 = .ok (.iinc 9 1, 3) := by decide +kernel
theorem dX5_nearestValue_221 : decode cX5_nearestValue 221 = .ok (.goto (-158), 3) := by decide +kernel
theorem dX5_nearestValue_224 : decode cX5_nearestValue 224 = .ok (.iload 6, 2) := by decide +kernel
theorem dX5_nearestValue_226 : decode cX5_nearestValue 226 = .ok (.ireturn, 1) := by decide +kernel
set_option maxRecDepth 20000 in
theorem ggX5_valueAt_X5_areaIn : GoodIn wsX5_valueAt wsX5_areaIn := goodIn_r _ [8, 1, 9, 10, 7, 11, 12, 13, 14, 28, 29, 30, 31, 32, 33, 34, 35, 36, 37, 38, 39, 40, 41, 42, 43, 44, 45, 46, 47, 48, 49, 50, 51, 52, 53, 54, 55, 56, 57, 58, 59, 60, 61, 62] (by decide +kernel) (by decide +kernel)
set_option maxRecDepth 20000 in
theorem gX5_valueAt_X5_areaIn : GoodIn wsX5_valueAt (wsV RX5 102 RX5 yX5_areaIn wsX5_areaIn) := goodIn_app (goodIn_of _ (by decide +kernel)) ggX5_valueAt_X5_areaIn
set_option maxRecDepth 20000 in
theorem ggX5_valueAt_X5_mod : GoodIn wsX5_valueAt wsX5_mod := goodIn_r _ [17] (by decide +kernel) (by decide +kernel)
set_option maxRecDepth 20000 in
theorem gX5_valueAt_X5_mod : GoodIn wsX5_valueAt (va_wsS RX5 67 yX5_mod wsX5_mod) := goodIn_app (goodIn_of _ (by decide +kernel)) ggX5_valueAt_X5_mod
set_option maxRecDepth 20000 in
theorem ggX5_valueAt_X5_nearestValue : GoodIn wsX5_valueAt wsX5_nearestValue := goodIn_r _ [21, 22, 23, 24, 25, 26, 7, 27, 15, 16, 17, 12, 13, 14, 28, 29, 30, 31, 32, 33, 34, 35, 36, 37, 38, 39, 40, 41, 42, 43, 44, 45, 46, 47, 48, 49, 50, 51, 52, 53, 54, 55, 56, 57, 58, 59, 60, 61, 62] (by decide +kernel) (by decide +kernel)
set_option maxRecDepth 20000 in
theorem gX5_valueAt_X5_nearestValue : GoodIn wsX5_valueAt (wsV RX5 105 RX5 yX5_nearestValue wsX5_nearestValue) := goodIn_app (goodIn_of _ (by decide +kernel)) ggX5_valueAt_X5_nearestValue
theorem dX5_valueAt_0 : decode cX5_valueAt 0 = .ok (.iconst 4, 1) := by decide +kernel
theorem dX5_valueAt_1 : decode cX5_valueAt 1 = .ok (.iload_n 1, 1) := by decide +kernel
theorem dX5_valueAt_2 : decode cX5_valueAt 2 = .ok (.imul, 1) := by decide +kernel
theorem dX5_valueAt_3 : decode cX5_valueAt 3 = .ok (.istore 4, 2) := by decide +kernel
theorem dX5_valueAt_5 : decode cX5_valueAt 5 = .ok (.aload_n 0, 1) := by decide +kernel
theorem dX5_valueAt_6 : decode cX5_valueAt 6 = .ok (.getfield 13, 3) := by decide +kernel
theorem dX5_valueAt_9 : decode cX5_valueAt 9 = .ok (.iload 4, 2) := by decide +kernel
theorem dX5_valueAt_11 : decode cX5_valueAt 11 = .ok (.iaload, 1) := by decide +kernel
theorem dX5_valueAt_12 : decode cX5_valueAt 12 = .ok (.aload_n 0, 1) := by decide +kernel
theorem dX5_valueAt_13 : decode cX5_valueAt 13 = .ok (.getfield 13, 3) := by decide +kernel
theorem dX5_valueAt_16 : decode cX5_valueAt 16 = .ok (.iload 4, 2) := by decide +kernel
theorem dX5_valueAt_18 : decode cX5_valueAt 18 = .ok (.iconst 2, 1) := by decide +kernel
theorem dX5_valueAt_19 : decode cX5_valueAt 19 = .ok (.iadd, 1) := by decide +kernel
theorem dX5_valueAt_20 : decode cX5_valueAt 20 = .ok (.iaload, 1) := by decide +kernel
theorem dX5_valueAt_21 : decode cX5_valueAt 21 = .ok (.iadd, 1) := by decide +kernel
theorem dX5_valueAt_22 : decode cX5_valueAt 22 = .ok (.istore 5, 2) := by decide +kernel
theorem dX5_valueAt_24 : decode cX5_valueAt 24 = .ok (.aload_n 0, 1) := by decide +kernel
theorem dX5_valueAt_25 : decode cX5_valueAt 25 = .ok (.getfield 13, 3) := by decide +kernel
theorem dX5_valueAt_28 : decode cX5_valueAt 28 = .ok (.iload 4, 2) := by decide +kernel
theorem dX5_valueAt_30 : decode cX5_valueAt 30 = .ok (.iconst 1, 1) := by decide +kernel
theorem dX5_valueAt_31 : decode cX5_valueAt 31 = .ok (.iadd, 1) := by decide +kernel
theorem dX5_valueAt_32 : decode cX5_valueAt 32 = .ok (.iaload, 1) := by decide +kernel
theorem dX5_valueAt_33 : decode cX5_valueAt 33 = .ok (.aload_n 0, 1) := by decide +kernel
theorem dX5_valueAt_34 : decode cX5_valueAt 34 = .ok (.getfield 13, 3) := by decide +kernel
theorem dX5_valueAt_37 : decode cX5_valueAt 37 = .ok (.iload 4, 2) := by decide +kernel
theorem dX5_valueAt_39 : decode cX5_valueAt 39 = .ok (.iconst 3, 1) := by decide +kernel
theorem dX5_valueAt_40 : decode cX5_valueAt 40 = .ok (.iadd, 1) := by decide +kernel
theorem dX5_valueAt_41 : decode cX5_valueAt 41 = .ok (.iaload, 1) := by decide +kernel
theorem dX5_valueAt_42 : decode cX5_valueAt 42 = .ok (.iadd, 1) := by decide +kernel
theorem dX5_valueAt_43 : decode cX5_valueAt 43 = .ok (.istore 6, 2) := by decide +kernel
theorem dX5_valueAt_45 : decode cX5_valueAt 45 = .ok (.aload_n 0, 1) := by decide +kernel
theorem dX5_valueAt_46 : decode cX5_valueAt 46 = .ok (.getfield 20, 3) := by decide +kernel
theorem dX5_valueAt_49 : decode cX5_valueAt 49 = .ok (.iload_n 1, 1) := by decide +kernel
theorem dX5_valueAt_50 : decode cX5_valueAt 50 = .ok (.baload, 1) := by decide +kernel
theorem dX5_valueAt_51 : decode cX5_valueAt 51 = .ok (.istore 7, 2) := by decide +kernel
theorem dX5_valueAt_53 : decode cX5_valueAt 53 = .ok (.iload 7, 2) := by decide +kernel
theorem dX5_valueAt_55 : decode cX5_valueAt 55 = .ok (.ifCond .eq 8, 3) := by decide +kernel
theorem dX5_valueAt_58 : decode cX5_valueAt 58 = .ok (.iload 5, 2) := by decide +kernel
theorem dX5_valueAt_60 : decode cX5_valueAt 60 = .ok (.goto 4, 3) := by decide +kernel
theorem dX5_valueAt_63 : decode cX5_valueAt 63 = .ok (.iconst 0, 1) := by decide +kernel
theorem dX5_valueAt_64 : decode cX5_valueAt 64 = .ok (.istore 8, 2) := by decide +kernel
theorem dX5_valueAt_66 : decode cX5_valueAt 66 = .ok (.iload 7, 2) := by decide +kernel
theorem dX5_valueAt_68 : decode cX5_valueAt 68 = .ok (.ifCond .eq 8, 3) := by decide +kernel
theorem dX5_valueAt_71 : decode cX5_valueAt 71 = .ok (.iload 6, 2) := by decide +kernel
theorem dX5_valueAt_73 : decode cX5_valueAt 73 = .ok (.goto 4, 3) := by decide +kernel
theorem dX5_valueAt_76 : decode cX5_valueAt 76 = .ok (.iconst 0, 1) := by decide +kernel
theorem dX5_valueAt_77 : decode cX5_valueAt 77 = .ok (.istore 9, 2) := by decide +kernel
theorem dX5_valueAt_79 : decode cX5_valueAt 79 = .ok (.aload_n 0, 1) := by decide +kernel
theorem dX5_valueAt_80 : decode cX5_valueAt 80 = .ok (.getfield 17, 3) := by decide +kernel
theorem dX5_valueAt_83 : decode cX5_valueAt 83 = .ok (.iload_n 1, 1) := by decide +kernel
theorem dX5_valueAt_84 : decode cX5_valueAt 84 = .ok (.iaload, 1) := by decide +kernel
theorem dX5_valueAt_85 : decode cX5_valueAt 85 = .ok (.iconst 3, 1) := by decide +kernel
theorem dX5_valueAt_86 : decode cX5_valueAt 86 = .ok (.if_icmp .ne 71, 3) := by decide +kernel
theorem dX5_valueAt_89 : decode cX5_valueAt 89 = .ok (.iconst 2, 1) := by decide +kernel
theorem dX5_valueAt_90 : decode cX5_valueAt 90 = .ok (.aload_n 0, 1) := by decide +kernel
theorem dX5_valueAt_91 : decode cX5_valueAt 91 = .ok (.iload_n 1, 1) := by decide +kernel
theorem dX5_valueAt_92 : decode cX5_valueAt 92 = .ok (.invokevirtual 102, 3) := by decide +kernel
theorem dX5_valueAt_95 : decode cX5_valueAt 95 = .ok (.imul, 1) := by decide +kernel
theorem dX5_valueAt_96 : decode cX5_valueAt 96 = .ok (.istore 10, 2) := by decide +kernel
theorem dX5_valueAt_98 : decode cX5_valueAt 98 = .ok (.iconst 2, 1) := by decide +kernel
theorem dX5_valueAt_99 : decode cX5_valueAt 99 = .ok (.iload_n 2, 1) := by decide +kernel
theorem dX5_valueAt_100 : decode cX5_valueAt 100 = .ok (.imul, 1) := by decide +kernel
theorem dX5_valueAt_101 : decode cX5_valueAt 101 = .ok (.iload 8, 2) := by decide +kernel
theorem dX5_valueAt_103 : decode cX5_valueAt 103 = .ok (.isub, 1) := by decide +kernel
theorem dX5_valueAt_104 : decode cX5_valueAt 104 = .ok (.aload_n 0, 1) := by decide +kernel
theorem dX5_valueAt_105 : decode cX5_valueAt 105 = .ok (.getfield 13, 3) := by decide +kernel
theorem dX5_valueAt_108 : decode cX5_valueAt 108 = .ok (.iload 4, 2) := by decide +kernel
theorem dX5_valueAt_110 : decode cX5_valueAt 110 = .ok (.iconst 1, 1) := by decide +kernel
theorem dX5_valueAt_111 : decode cX5_valueAt 111 = .ok (.iadd, 1) := by decide +kernel
theorem dX5_valueAt_112 : decode cX5_valueAt 112 = .ok (.iaload, 1) := by decide +kernel
theorem dX5_valueAt_113 : decode cX5_valueAt 113 = .ok (.imul, 1) := by decide +kernel
theorem dX5_valueAt_114 : decode cX5_valueAt 114 = .ok (.iconst 2, 1) := by decide +kernel
theorem dX5_valueAt_115 : decode cX5_valueAt 115 = .ok (.iload_n 3, 1) := by decide +kernel
theorem dX5_valueAt_116 : decode cX5_valueAt 116 = .ok (.imul, 1) := by decide +kernel
theorem dX5_valueAt_117 : decode cX5_valueAt 117 = .ok (.iload 9, 2) := by decide +kernel
theorem dX5_valueAt_119 : decode cX5_valueAt 119 = .ok (.isub, 1) := by decide +kernel
theorem dX5_valueAt_120 : decode cX5_valueAt 120 = .ok (.aload_n 0, 1) := by decide +kernel
theorem dX5_valueAt_121 : decode cX5_valueAt 121 = .ok (.getfield 13, 3) := by decide +kernel
theorem dX5_valueAt_124 : decode cX5_valueAt 124 = .ok (.iload 4, 2) := by decide +kernel
theorem dX5_valueAt_126 : decode cX5_valueAt 126 = .ok (.iaload, 1) := by decide +kernel
theorem dX5_valueAt_127 : decode cX5_valueAt 127 = .ok (.imul, 1) := by decide +kernel
theorem dX5_valueAt_128 : decode cX5_valueAt 128 = .ok (.isub, 1) := by decide +kernel
theorem dX5_valueAt_129 : decode cX5_valueAt 129 = .ok (.iload 10, 2) := by decide +kernel
theorem dX5_valueAt_131 : decode cX5_valueAt 131 = .ok (.invokestatic 67, 3) := by decide +kernel
theorem dX5_valueAt_134 : decode cX5_valueAt 134 = .ok (.istore 11, 2) := by decide +kernel
theorem dX5_valueAt_136 : decode cX5_valueAt 136 = .ok (.iload 11, 2) := by decide +kernel
theorem dX5_valueAt_138 : decode cX5_valueAt 138 = .ok (.iload 10, 2) := by decide +kernel
theorem dX5_valueAt_140 : decode cX5_valueAt 140 = .ok (.iload 11, 2) := by decide +kernel
theorem dX5_valueAt_142 : decode cX5_valueAt 142 = .ok (.isub, 1) := by decide +kernel
theorem dX5_valueAt_143 : decode cX5_valueAt 143 = .ok (.if_icmp .ge 8, 3) := by decide +kernel
theorem dX5_valueAt_146 : decode cX5_valueAt 146 = .ok (.iload 11, 2) := by decide +kernel
theorem dX5_valueAt_148 : decode cX5_valueAt 148 = .ok (.goto 8, 3) := by decide +kernel
theorem dX5_valueAt_151 : decode cX5_valueAt 151 = .ok (.iload 10, 2) := by decide +kernel
theorem dX5_valueAt_153 : decode cX5_valueAt 153 = .ok (.iload 11, 2) := by decide +kernel
theorem dX5_valueAt_155 : decode cX5_valueAt 155 = .ok (.isub, 1) := by decide +kernel
theorem dX5_valueAt_156 : decode cX5_valueAt 156 = .ok (.ireturn, 1) := by decide +kernel
theorem dX5_valueAt_157 : decode cX5_valueAt 157 = .ok (.aload_n 0, 1) := by decide +kernel
theorem dX5_valueAt_158 : decode cX5_valueAt 158 = .ok (.getfield 17, 3) := by decide +kernel
theorem dX5_valueAt_161 : decode cX5_valueAt 161 = .ok (.iload_n 1, 1) := by decide +kernel
theorem dX5_valueAt_162 : decode cX5_valueAt 162 = .ok (.iaload, 1) := by decide +kernel
theorem dX5_valueAt_163 : decode cX5_valueAt 163 = .ok (.iconst 4, 1) := by decide +kernel
theorem dX5_valueAt_164 : decode cX5_valueAt 164 = .ok (.if_icmp .ne 45, 3) := by decide +kernel
theorem dX5_valueAt_167 : decode cX5_valueAt 167 = .ok (.aload_n 0, 1) := by decide +kernel
theorem dX5_valueAt_168 : decode cX5_valueAt 168 = .ok (.iload_n 2, 1) := by decide +kernel
theorem dX5_valueAt_169 : decode cX5_valueAt 169 = .ok (.iload_n 3, 1) := by decide +kernel
theorem dX5_valueAt_170 : decode cX5_valueAt 170 = .ok (.iload 8, 2) := by decide +kernel
theorem dX5_valueAt_172 : decode cX5_valueAt 172 = .ok (.iload 9, 2) := by decide +kernel
theorem dX5_valueAt_174 : decode cX5_valueAt 174 = .ok (.iconst 0, 1) := by decide +kernel
theorem dX5_valueAt_175 : decode cX5_valueAt 175 = .ok (.invokevirtual 105, 3) := by decide +kernel
theorem dX5_valueAt_178 : decode cX5_valueAt 178 = .ok (.aload_n 0, 1) := by decide +kernel
theorem dX5_valueAt_179 : decode cX5_valueAt 179 = .ok (.iload_n 2, 1) := by decide +kernel
theorem dX5_valueAt_180 : decode cX5_valueAt 180 = .ok (.iload_n 3, 1) := by decide +kernel
theorem dX5_valueAt_181 : decode cX5_valueAt 181 = .ok (.iload 7, 2) := by decide +kernel
theorem dX5_valueAt_183 : decode cX5_valueAt 183 = .ok (.ifCond .eq 7, 3) := by decide +kernel
theorem dX5_valueAt_186 : decode cX5_valueAt 186 = .ok (.iconst 0, 1) := by decide +kernel
theorem dX5_valueAt_187 : decode cX5_valueAt 187 = .ok (.goto 5, 3) := by decide +kernel
theorem dX5_valueAt_190 : decode cX5_valueAt 190 = .ok (.iload 5, 2) := by decide +kernel
theorem dX5_valueAt_192 : decode cX5_valueAt 192 = .ok (.iload 7, 2) := by decide +kernel
theorem dX5_valueAt_194 : decode cX5_valueAt 194 = .ok (.ifCond .eq 7, 3) := by decide +kernel
theorem dX5_valueAt_197 : decode cX5_valueAt 197 = .ok (.iconst 0, 1) := by decide +kernel
theorem dX5_valueAt_198 : decode cX5_valueAt 198 = .ok (.goto 5, 3) := by decide +kernel
theorem dX5_valueAt_201 : decode cX5_valueAt 201 = .ok (.iload 6, 2) := by decide +kernel
theorem dX5_valueAt_203 : decode cX5_valueAt 203 = .ok (.iconst 0, 1) := by decide +kernel
theorem dX5_valueAt_204 : decode cX5_valueAt 204 = .ok (.invokevirtual 105, 3) := by decide +kernel
theorem dX5_valueAt_207 : decode cX5_valueAt 207 = .ok (.isub, 1) := by decide +kernel
theorem dX5_valueAt_208 : decode cX5_valueAt 208 = .ok (.ireturn, 1) := by decide +kernel
theorem dX5_valueAt_209 : decode cX5_valueAt 209 = .ok (.aload_n 0, 1) := by decide +kernel
theorem dX5_valueAt_210 : decode cX5_valueAt 210 = .ok (.iload_n 2, 1) := by decide +kernel
theorem dX5_valueAt_211 : decode cX5_valueAt 211 = .ok (.iload_n 3, 1) := by decide +kernel
theorem dX5_valueAt_212 : decode cX5_valueAt 212 = .ok (.iload 8, 2) := by decide +kernel
theorem dX5_valueAt_214 : decode cX5_valueAt 214 = .ok (.iload 9, 2) := by decide +kernel
theorem dX5_valueAt_216 : decode cX5_valueAt 216 = .ok (.aload_n 0, 1) := by decide +kernel
theorem dX5_valueAt_217 : decode cX5_valueAt 217 = .ok (.getfield 17, 3) := by decide +kernel
theorem dX5_valueAt_220 : decode cX5_valueAt 220 = .ok (.iload_n 1, 1) := by decide +kernel
theorem dX5_valueAt_221 : decode cX5_valueAt 221 = .ok (.iaload, 1) := by decide +kernel
theorem dX5_valueAt_222 : decode cX5_valueAt 222 = .ok (.invokevirtual 105, 3) := by decide +kernel
theorem dX5_valueAt_225 : decode cX5_valueAt 225 = .ok (.ireturn, 1) := by decide +kernel
set_option maxRecDepth 20000 in
theorem ggX5_layGrowth_X5_layScreen : GoodIn wsX5_layGrowth wsX5_layScreen := goodIn_r _ [9, 10, 11, 12, 13, 8, 14, 15, 3, 16, 17, 18, 19, 20, 21, 22, 23, 24, 25, 26, 27, 28, 46, 47, 48, 49, 50, 51, 52, 53, 54, 55, 56, 57, 58, 59, 60, 61, 62, 63, 64, 65, 66, 67, 68, 69, 70, 71, 72, 73, 74, 75, 76, 77, 78, 79, 80] (by decide +kernel) (by decide +kernel)
set_option maxRecDepth 20000 in
theorem gX5_layGrowth_X5_layScreen : GoodIn wsX5_layGrowth (wsV RX5 109 RX5 yX5_layScreen wsX5_layScreen) := goodIn_app (goodIn_of _ (by decide +kernel)) ggX5_layGrowth_X5_layScreen
set_option maxRecDepth 20000 in
theorem ggX5_layGrowth_X5_areaIn : GoodIn wsX5_layGrowth wsX5_areaIn := goodIn_r _ [32, 10, 23, 24, 8, 25, 20, 21, 22, 46, 47, 48, 49, 50, 51, 52, 53, 54, 55, 56, 57, 58, 59, 60, 61, 62, 63, 64, 65, 66, 67, 68, 69, 70, 71, 72, 73, 74, 75, 76, 77, 78, 79, 80] (by decide +kernel) (by decide +kernel)
set_option maxRecDepth 20000 in
theorem gX5_layGrowth_X5_areaIn : GoodIn wsX5_layGrowth (wsV RX5 102 RX5 yX5_areaIn wsX5_areaIn) := goodIn_app (goodIn_of _ (by decide +kernel)) ggX5_layGrowth_X5_areaIn
set_option maxRecDepth 20000 in
theorem ggX5_layGrowth_X5_valueAt : GoodIn wsX5_layGrowth wsX5_valueAt := goodIn_r _ [36, 10, 37, 38, 29, 30, 31, 8, 32, 23, 24, 25, 20, 21, 22, 26, 27, 28, 39, 40, 41, 42, 3, 15, 16, 43, 44, 45, 46, 47, 48, 49, 50, 51, 52, 53, 54, 55, 56, 57, 58, 59, 60, 61, 62, 63, 64, 65, 66, 67, 68, 69, 70, 71, 72, 73, 74, 75, 76, 77, 78, 79, 80] (by decide +kernel) (by decide +kernel)
set_option maxRecDepth 20000 in
theorem gX5_layGrowth_X5_valueAt : GoodIn wsX5_layGrowth (wsV RX5 116 RX5 yX5_valueAt wsX5_valueAt) := goodIn_app (goodIn_of _ (by decide +kernel)) ggX5_layGrowth_X5_valueAt
theorem dX5_layGrowth_0 : decode cX5_layGrowth 0 = .ok (.aload_n 0, 1) := by decide +kernel
theorem dX5_layGrowth_1 : decode cX5_layGrowth 1 = .ok (.iload_n 1, 1) := by decide +kernel
theorem dX5_layGrowth_2 : decode cX5_layGrowth 2 = .ok (.invokevirtual 109, 3) := by decide +kernel
theorem dX5_layGrowth_5 : decode cX5_layGrowth 5 = .ok (.aload_n 0, 1) := by decide +kernel
theorem dX5_layGrowth_6 : decode cX5_layGrowth 6 = .ok (.aload_n 0, 1) := by decide +kernel
theorem dX5_layGrowth_7 : decode cX5_layGrowth 7 = .ok (.iload_n 1, 1) := by decide +kernel
theorem dX5_layGrowth_8 : decode cX5_layGrowth 8 = .ok (.invokevirtual 102, 3) := by decide +kernel
theorem dX5_layGrowth_11 : decode cX5_layGrowth 11 = .ok (.putfield 113, 3) := by decide +kernel
theorem dX5_layGrowth_14 : decode cX5_layGrowth 14 = .ok (.iconst 0, 1) := by decide +kernel
theorem dX5_layGrowth_15 : decode cX5_layGrowth 15 = .ok (.istore_n 2, 1) := by decide +kernel
theorem dX5_layGrowth_16 : decode cX5_layGrowth 16 = .ok (.iload_n 2, 1) := by decide +kernel
theorem dX5_layGrowth_17 : decode cX5_layGrowth 17 = .ok (.aload_n 0, 1) := by decide +kernel
theorem dX5_layGrowth_18 : decode cX5_layGrowth 18 = .ok (.getfield 113, 3) := by decide +kernel
theorem dX5_layGrowth_21 : decode cX5_layGrowth 21 = .ok (.if_icmp .ge 32, 3) := by decide +kernel
theorem dX5_layGrowth_24 : decode cX5_layGrowth 24 = .ok (.aload_n 0, 1) := by decide +kernel
theorem dX5_layGrowth_25 : decode cX5_layGrowth 25 = .ok (.getfield 29, 3) := by decide +kernel
theorem dX5_layGrowth_28 : decode cX5_layGrowth 28 = .ok (.iload_n 2, 1) := by decide +kernel
theorem dX5_layGrowth_29 : decode cX5_layGrowth 29 = .ok (.aload_n 0, 1) := by decide +kernel
theorem dX5_layGrowth_30 : decode cX5_layGrowth 30 = .ok (.iload_n 1, 1) := by decide +kernel
theorem dX5_layGrowth_31 : decode cX5_layGrowth 31 = .ok (.iload_n 2, 1) := by decide +kernel
theorem dX5_layGrowth_32 : decode cX5_layGrowth 32 = .ok (.aload_n 0, 1) := by decide +kernel
theorem dX5_layGrowth_33 : decode cX5_layGrowth 33 = .ok (.getfield 89, 3) := by decide +kernel
theorem dX5_layGrowth_36 : decode cX5_layGrowth 36 = .ok (.irem, 1) := by decide +kernel
theorem dX5_layGrowth_37 : decode cX5_layGrowth 37 = .ok (.iload_n 2, 1) := by decide +kernel
theorem dX5_layGrowth_38 : decode cX5_layGrowth 38 = .ok (.aload_n 0, 1) := by decide +kernel
theorem dX5_layGrowth_39 : decode cX5_layGrowth 39 = .ok (.getfield 89, 3) := by decide +kernel
theorem dX5_layGrowth_42 : decode cX5_layGrowth 42 = .ok (.idiv, 1) := by decide +kernel
theorem dX5_layGrowth_43 : decode cX5_layGrowth 43 = .ok (.invokevirtual 116, 3) := by decide +kernel
theorem dX5_layGrowth_46 : decode cX5_layGrowth 46 = .ok (.iastore, 1) := by decide +kernel
theorem dX5_layGrowth_47 : decode cX5_layGrowth 47 = .ok (.iinc 2 1, 3) := by decide +kernel
theorem dX5_layGrowth_50 : decode cX5_layGrowth 50 = .ok (.goto (-34), 3) := by decide +kernel
theorem dX5_layGrowth_53 : decode cX5_layGrowth 53 = .ok (.iconst 0, 1) := by decide +kernel
theorem dX5_layGrowth_54 : decode cX5_layGrowth 54 = .ok (.istore_n 2, 1) := by decide +kernel
theorem dX5_layGrowth_55 : decode cX5_layGrowth 55 = .ok (.iload_n 2, 1) := by decide +kernel
theorem dX5_layGrowth_56 : decode cX5_layGrowth 56 = .ok (.aload_n 0, 1) := by decide +kernel
theorem dX5_layGrowth_57 : decode cX5_layGrowth 57 = .ok (.getfield 113, 3) := by decide +kernel
theorem dX5_layGrowth_60 : decode cX5_layGrowth 60 = .ok (.if_icmp .ge 81, 3) := by decide +kernel
theorem dX5_layGrowth_63 : decode cX5_layGrowth 63 = .ok (.aload_n 0, 1) := by decide +kernel
theorem dX5_layGrowth_64 : decode cX5_layGrowth 64 = .ok (.getfield 32, 3) := by decide +kernel
theorem dX5_layGrowth_67 : decode cX5_layGrowth 67 = .ok (.iload_n 2, 1) := by decide +kernel
theorem dX5_layGrowth_68 : decode cX5_layGrowth 68 = .ok (.iconst 0, 1) := by decide +kernel
theorem dX5_layGrowth_69 : decode cX5_layGrowth 69 = .ok (.iastore, 1) := by decide +kernel
theorem dX5_layGrowth_70 : decode cX5_layGrowth 70 = .ok (.iconst 0, 1) := by decide +kernel
theorem dX5_layGrowth_71 : decode cX5_layGrowth 71 = .ok (.istore_n 3, 1) := by decide +kernel
theorem dX5_layGrowth_72 : decode cX5_layGrowth 72 = .ok (.iload_n 3, 1) := by decide +kernel
theorem dX5_layGrowth_73 : decode cX5_layGrowth 73 = .ok (.aload_n 0, 1) := by decide +kernel
theorem dX5_layGrowth_74 : decode cX5_layGrowth 74 = .ok (.getfield 113, 3) := by decide +kernel
theorem dX5_layGrowth_77 : decode cX5_layGrowth 77 = .ok (.if_icmp .ge 58, 3) := by decide +kernel
theorem dX5_layGrowth_80 : decode cX5_layGrowth 80 = .ok (.aload_n 0, 1) := by decide +kernel
theorem dX5_layGrowth_81 : decode cX5_layGrowth 81 = .ok (.getfield 32, 3) := by decide +kernel
theorem dX5_layGrowth_84 : decode cX5_layGrowth 84 = .ok (.iload_n 2, 1) := by decide +kernel
theorem dX5_layGrowth_85 : decode cX5_layGrowth 85 = .ok (.dup2, 1) := by decide +kernel
theorem dX5_layGrowth_86 : decode cX5_layGrowth 86 = .ok (.iaload, 1) := by decide +kernel
theorem dX5_layGrowth_87 : decode cX5_layGrowth 87 = .ok (.aload_n 0, 1) := by decide +kernel
theorem dX5_layGrowth_88 : decode cX5_layGrowth 88 = .ok (.getfield 29, 3) := by decide +kernel
theorem dX5_layGrowth_91 : decode cX5_layGrowth 91 = .ok (.iload_n 3, 1) := by decide +kernel
theorem dX5_layGrowth_92 : decode cX5_layGrowth 92 = .ok (.iaload, 1) := by decide +kernel
theorem dX5_layGrowth_93 : decode cX5_layGrowth 93 = .ok (.aload_n 0, 1) := by decide +kernel
theorem dX5_layGrowth_94 : decode cX5_layGrowth 94 = .ok (.getfield 29, 3) := by decide +kernel
theorem dX5_layGrowth_97 : decode cX5_layGrowth 97 = .ok (.iload_n 2, 1) := by decide +kernel
theorem dX5_layGrowth_98 : decode cX5_layGrowth 98 = .ok (.iaload, 1) := by decide +kernel
theorem dX5_layGrowth_99 : decode cX5_layGrowth 99 = .ok (.if_icmp .lt 23, 3) := by decide +kernel
theorem dX5_layGrowth_102 : decode cX5_layGrowth 102 = .ok (.aload_n 0, 1) := by decide +kernel
theorem dX5_layGrowth_103 : decode cX5_layGrowth 103 = .ok (.getfield 29, 3) := by decide +kernel
theorem dX5_layGrowth_106 : decode cX5_layGrowth 106 = .ok (.iload_n 3, 1) := by decide +kernel
theorem dX5_layGrowth_107 : decode cX5_layGrowth 107 = .ok (.iaload, 1) := by decide +kernel
theorem dX5_layGrowth_108 : decode cX5_layGrowth 108 = .ok (.aload_n 0, 1) := by decide +kernel
theorem dX5_layGrowth_109 : decode cX5_layGrowth 109 = .ok (.getfield 29, 3) := by decide +kernel
theorem dX5_layGrowth_112 : decode cX5_layGrowth 112 = .ok (.iload_n 2, 1) := by decide +kernel
theorem dX5_layGrowth_113 : decode cX5_layGrowth 113 = .ok (.iaload, 1) := by decide +kernel
theorem dX5_layGrowth_114 : decode cX5_layGrowth 114 = .ok (.if_icmp .ne 12, 3) := by decide +kernel
theorem dX5_layGrowth_117 : decode cX5_layGrowth 117 = .ok (.iload_n 3, 1) := by decide +kernel
theorem dX5_layGrowth_118 : decode cX5_layGrowth 118 = .ok (.iload_n 2, 1) := by decide +kernel
theorem dX5_layGrowth_119 : decode cX5_layGrowth 119 = .ok (.if_icmp .ge 7, 3) := by decide +kernel
theorem dX5_layGrowth_122 : decode cX5_layGrowth 122 = .ok (.iconst 1, 1) := by decide +kernel
theorem dX5_layGrowth_123 : decode cX5_layGrowth 123 = .ok (.goto 4, 3) := by decide +kernel
theorem dX5_layGrowth_126 : decode cX5_layGrowth 126 = .ok (.iconst 0, 1) := by decide +kernel
theorem dX5_layGrowth_127 : decode cX5_layGrowth 127 = .ok (.iadd, 1) := by decide +kernel
theorem dX5_layGrowth_128 : decode cX5_layGrowth 128 = .ok (.iastore, 1) := by decide +kernel
theorem dX5_layGrowth_129 : decode cX5_layGrowth 129 = .ok (.iinc 3 1, 3) := by decide +kernel
theorem dX5_layGrowth_132 : decode cX5_layGrowth 132 = .ok (.goto (-60), 3) := by decide +kernel
theorem dX5_layGrowth_135 : decode cX5_layGrowth 135 = .ok (.iinc 2 1, 3) := by decide +kernel
theorem dX5_layGrowth_138 : decode cX5_layGrowth 138 = .ok (.goto (-83), 3) := by decide +kernel
theorem dX5_layGrowth_141 : decode cX5_layGrowth 141 = .ok (.return_, 1) := by decide +kernel
set_option maxRecDepth 20000 in
theorem ggX5_keepRanks_X5_layGrowth : GoodIn wsX5_keepRanks wsX5_layGrowth := goodIn_r _ [8, 1, 9, 10, 3, 11, 12, 13, 7, 14, 15, 16, 17, 18, 19, 20, 21, 22, 23, 24, 25, 26, 27, 28, 29, 30, 31, 32, 33, 34, 35, 36, 37, 38, 39, 40, 41, 42, 43, 44, 45, 46, 47, 48, 49, 50, 51, 52, 53, 54, 55, 56, 57, 58, 59, 60, 61, 62, 63, 64, 65, 66, 67, 68, 69, 70, 71, 72, 73, 74, 75, 76, 77, 78, 79, 80, 81, 82, 83, 84, 85] (by decide +kernel) (by decide +kernel)
set_option maxRecDepth 20000 in
theorem gX5_keepRanks_X5_layGrowth : GoodIn wsX5_keepRanks (wsV RX5 120 RX5 yX5_layGrowth wsX5_layGrowth) := goodIn_app (goodIn_of _ (by decide +kernel)) ggX5_keepRanks_X5_layGrowth
theorem dX5_keepRanks_0 : decode cX5_keepRanks 0 = .ok (.aload_n 0, 1) := by decide +kernel
theorem dX5_keepRanks_1 : decode cX5_keepRanks 1 = .ok (.iload_n 1, 1) := by decide +kernel
theorem dX5_keepRanks_2 : decode cX5_keepRanks 2 = .ok (.invokevirtual 120, 3) := by decide +kernel
theorem dX5_keepRanks_5 : decode cX5_keepRanks 5 = .ok (.iconst 0, 1) := by decide +kernel
theorem dX5_keepRanks_6 : decode cX5_keepRanks 6 = .ok (.istore_n 2, 1) := by decide +kernel
theorem dX5_keepRanks_7 : decode cX5_keepRanks 7 = .ok (.iload_n 2, 1) := by decide +kernel
theorem dX5_keepRanks_8 : decode cX5_keepRanks 8 = .ok (.aload_n 0, 1) := by decide +kernel
theorem dX5_keepRanks_9 : decode cX5_keepRanks 9 = .ok (.getfield 113, 3) := by decide +kernel
theorem dX5_keepRanks_12 : decode cX5_keepRanks 12 = .ok (.if_icmp .ge 21, 3) := by decide +kernel
theorem dX5_keepRanks_15 : decode cX5_keepRanks 15 = .ok (.aload_n 0, 1) := by decide +kernel
theorem dX5_keepRanks_16 : decode cX5_keepRanks 16 = .ok (.getfield 35, 3) := by decide +kernel
theorem dX5_keepRanks_19 : decode cX5_keepRanks 19 = .ok (.iload_n 2, 1) := by decide +kernel
theorem dX5_keepRanks_20 : decode cX5_keepRanks 20 = .ok (.aload_n 0, 1) := by decide +kernel
theorem dX5_keepRanks_21 : decode cX5_keepRanks 21 = .ok (.getfield 32, 3) := by decide +kernel
theorem dX5_keepRanks_24 : decode cX5_keepRanks 24 = .ok (.iload_n 2, 1) := by decide +kernel
theorem dX5_keepRanks_25 : decode cX5_keepRanks 25 = .ok (.iaload, 1) := by decide +kernel
theorem dX5_keepRanks_26 : decode cX5_keepRanks 26 = .ok (.iastore, 1) := by decide +kernel
theorem dX5_keepRanks_27 : decode cX5_keepRanks 27 = .ok (.iinc 2 1, 3) := by decide +kernel
theorem dX5_keepRanks_30 : decode cX5_keepRanks 30 = .ok (.goto (-23), 3) := by decide +kernel
theorem dX5_keepRanks_33 : decode cX5_keepRanks 33 = .ok (.return_, 1) := by decide +kernel
set_option maxRecDepth 20000 in
theorem ggX5_otherRanks_X5_layGrowth : GoodIn wsX5_otherRanks wsX5_layGrowth := goodIn_r _ [8, 1, 9, 10, 2, 11, 12, 13, 7, 14, 15, 16, 17, 18, 19, 20, 21, 22, 23, 24, 25, 26, 27, 28, 29, 30, 31, 32, 33, 34, 35, 36, 37, 38, 39, 40, 41, 42, 43, 44, 45, 46, 47, 48, 49, 50, 51, 52, 53, 54, 55, 56, 57, 58, 59, 60, 61, 62, 63, 64, 65, 66, 67, 68, 69, 70, 71, 72, 73, 74, 75, 76, 77, 78, 79, 80, 81, 82, 83, 84, 85] (by decide +kernel) (by decide +kernel)
set_option maxRecDepth 20000 in
theorem gX5_otherRanks_X5_layGrowth : GoodIn wsX5_otherRanks (wsV RX5 120 RX5 yX5_layGrowth wsX5_layGrowth) := goodIn_app (goodIn_of _ (by decide +kernel)) ggX5_otherRanks_X5_layGrowth
theorem dX5_otherRanks_0 : decode cX5_otherRanks 0 = .ok (.aload_n 0, 1) := by decide +kernel
theorem dX5_otherRanks_1 : decode cX5_otherRanks 1 = .ok (.iload_n 1, 1) := by decide +kernel
theorem dX5_otherRanks_2 : decode cX5_otherRanks 2 = .ok (.invokevirtual 120, 3) := by decide +kernel
theorem dX5_otherRanks_5 : decode cX5_otherRanks 5 = .ok (.iconst 0, 1) := by decide +kernel
theorem dX5_otherRanks_6 : decode cX5_otherRanks 6 = .ok (.istore_n 2, 1) := by decide +kernel
theorem dX5_otherRanks_7 : decode cX5_otherRanks 7 = .ok (.iconst 0, 1) := by decide +kernel
theorem dX5_otherRanks_8 : decode cX5_otherRanks 8 = .ok (.istore_n 3, 1) := by decide +kernel
theorem dX5_otherRanks_9 : decode cX5_otherRanks 9 = .ok (.iload_n 3, 1) := by decide +kernel
theorem dX5_otherRanks_10 : decode cX5_otherRanks 10 = .ok (.aload_n 0, 1) := by decide +kernel
theorem dX5_otherRanks_11 : decode cX5_otherRanks 11 = .ok (.getfield 113, 3) := by decide +kernel
theorem dX5_otherRanks_14 : decode cX5_otherRanks 14 = .ok (.if_icmp .ge 32, 3) := by decide +kernel
theorem dX5_otherRanks_17 : decode cX5_otherRanks 17 = .ok (.iload_n 2, 1) := by decide +kernel
theorem dX5_otherRanks_18 : decode cX5_otherRanks 18 = .ok (.aload_n 0, 1) := by decide +kernel
theorem dX5_otherRanks_19 : decode cX5_otherRanks 19 = .ok (.getfield 32, 3) := by decide +kernel
theorem dX5_otherRanks_22 : decode cX5_otherRanks 22 = .ok (.iload_n 3, 1) := by decide +kernel
theorem dX5_otherRanks_23 : decode cX5_otherRanks 23 = .ok (.iaload, 1) := by decide +kernel
theorem dX5_otherRanks_24 : decode cX5_otherRanks 24 = .ok (.aload_n 0, 1) := by decide +kernel
theorem dX5_otherRanks_25 : decode cX5_otherRanks 25 = .ok (.getfield 35, 3) := by decide +kernel
theorem dX5_otherRanks_28 : decode cX5_otherRanks 28 = .ok (.iload_n 3, 1) := by decide +kernel
theorem dX5_otherRanks_29 : decode cX5_otherRanks 29 = .ok (.iaload, 1) := by decide +kernel
theorem dX5_otherRanks_30 : decode cX5_otherRanks 30 = .ok (.if_icmp .ne 7, 3) := by decide +kernel
theorem dX5_otherRanks_33 : decode cX5_otherRanks 33 = .ok (.iconst 0, 1) := by decide +kernel
theorem dX5_otherRanks_34 : decode cX5_otherRanks 34 = .ok (.goto 4, 3) := by decide +kernel
theorem dX5_otherRanks_37 : decode cX5_otherRanks 37 = .ok (.iconst 1, 1) := by decide +kernel
theorem dX5_otherRanks_38 : decode cX5_otherRanks 38 = .ok (.iadd, 1) := by decide +kernel
theorem dX5_otherRanks_39 : decode cX5_otherRanks 39 = .ok (.istore_n 2, 1) := by decide +kernel
theorem dX5_otherRanks_40 : decode cX5_otherRanks 40 = .ok (.iinc 3 1, 3) := by decide +kernel
theorem dX5_otherRanks_43 : decode cX5_otherRanks 43 = .ok (.goto (-34), 3) := by decide +kernel
theorem dX5_otherRanks_46 : decode cX5_otherRanks 46 = .ok (.iload_n 2, 1) := by decide +kernel
theorem dX5_otherRanks_47 : decode cX5_otherRanks 47 = .ok (.ireturn, 1) := by decide +kernel
set_option maxRecDepth 20000 in
theorem ggX5_append_X5_within : GoodIn wsX5_append wsX5_within := goodIn_r _ [7] (by decide +kernel) (by decide +kernel)
set_option maxRecDepth 20000 in
theorem gX5_append_X5_within : GoodIn wsX5_append (va_wsS RX5 71 yX5_within wsX5_within) := goodIn_app (goodIn_of _ (by decide +kernel)) ggX5_append_X5_within
theorem dX5_append_0 : decode cX5_append 0 = .ok (.aload_n 0, 1) := by decide +kernel
theorem dX5_append_1 : decode cX5_append 1 = .ok (.iload_n 1, 1) := by decide +kernel
theorem dX5_append_2 : decode cX5_append 2 = .ok (.bipush 32, 2) := by decide +kernel
theorem dX5_append_4 : decode cX5_append 4 = .ok (.bipush 126, 2) := by decide +kernel
theorem dX5_append_6 : decode cX5_append 6 = .ok (.invokestatic 71, 3) := by decide +kernel
theorem dX5_append_9 : decode cX5_append 9 = .ok (.ifCond .ne 7, 3) := by decide +kernel
theorem dX5_append_12 : decode cX5_append 12 = .ok (.iconst 1, 1) := by decide +kernel
theorem dX5_append_13 : decode cX5_append 13 = .ok (.goto 17, 3) := by decide +kernel
theorem dX5_append_16 : decode cX5_append 16 = .ok (.aload_n 0, 1) := by decide +kernel
theorem dX5_append_17 : decode cX5_append 17 = .ok (.getfield 123, 3) := by decide +kernel
theorem dX5_append_20 : decode cX5_append 20 = .ok (.bipush 20, 2) := by decide +kernel
theorem dX5_append_22 : decode cX5_append 22 = .ok (.if_icmp .ne 7, 3) := by decide +kernel
theorem dX5_append_25 : decode cX5_append 25 = .ok (.iconst 2, 1) := by decide +kernel
theorem dX5_append_26 : decode cX5_append 26 = .ok (.goto 4, 3) := by decide +kernel
theorem dX5_append_29 : decode cX5_append 29 = .ok (.iconst 0, 1) := by decide +kernel
theorem dX5_append_30 : decode cX5_append 30 = .ok (.putfield 59, 3) := by decide +kernel
theorem dX5_append_33 : decode cX5_append 33 = .ok (.aload_n 0, 1) := by decide +kernel
theorem dX5_append_34 : decode cX5_append 34 = .ok (.getfield 59, 3) := by decide +kernel
theorem dX5_append_37 : decode cX5_append 37 = .ok (.ifCond .le 5, 3) := by decide +kernel
theorem dX5_append_40 : decode cX5_append 40 = .ok (.iconst 0, 1) := by decide +kernel
theorem dX5_append_41 : decode cX5_append 41 = .ok (.ireturn, 1) := by decide +kernel
theorem dX5_append_42 : decode cX5_append 42 = .ok (.aload_n 0, 1) := by decide +kernel
theorem dX5_append_43 : decode cX5_append 43 = .ok (.getfield 26, 3) := by decide +kernel
theorem dX5_append_46 : decode cX5_append 46 = .ok (.aload_n 0, 1) := by decide +kernel
theorem dX5_append_47 : decode cX5_append 47 = .ok (.getfield 123, 3) := by decide +kernel
theorem dX5_append_50 : decode cX5_append 50 = .ok (.iload_n 1, 1) := by decide +kernel
theorem dX5_append_51 : decode cX5_append 51 = .ok (.iastore, 1) := by decide +kernel
theorem dX5_append_52 : decode cX5_append 52 = .ok (.aload_n 0, 1) := by decide +kernel
theorem dX5_append_53 : decode cX5_append 53 = .ok (.dup, 1) := by decide +kernel
theorem dX5_append_54 : decode cX5_append 54 = .ok (.getfield 123, 3) := by decide +kernel
theorem dX5_append_57 : decode cX5_append 57 = .ok (.iconst 1, 1) := by decide +kernel
theorem dX5_append_58 : decode cX5_append 58 = .ok (.iadd, 1) := by decide +kernel
theorem dX5_append_59 : decode cX5_append 59 = .ok (.putfield 123, 3) := by decide +kernel
theorem dX5_append_62 : decode cX5_append 62 = .ok (.aload_n 0, 1) := by decide +kernel
theorem dX5_append_63 : decode cX5_append 63 = .ok (.getfield 123, 3) := by decide +kernel
theorem dX5_append_66 : decode cX5_append 66 = .ok (.ireturn, 1) := by decide +kernel
theorem dX5_clearInput_0 : decode cX5_clearInput 0 = .ok (.aload_n 0, 1) := by decide +kernel
theorem dX5_clearInput_1 : decode cX5_clearInput 1 = .ok (.iconst 0, 1) := by decide +kernel
theorem dX5_clearInput_2 : decode cX5_clearInput 2 = .ok (.putfield 59, 3) := by decide +kernel
theorem dX5_clearInput_5 : decode cX5_clearInput 5 = .ok (.aload_n 0, 1) := by decide +kernel
theorem dX5_clearInput_6 : decode cX5_clearInput 6 = .ok (.getfield 123, 3) := by decide +kernel
theorem dX5_clearInput_9 : decode cX5_clearInput 9 = .ok (.istore_n 1, 1) := by decide +kernel
theorem dX5_clearInput_10 : decode cX5_clearInput 10 = .ok (.aload_n 0, 1) := by decide +kernel
theorem dX5_clearInput_11 : decode cX5_clearInput 11 = .ok (.iconst 0, 1) := by decide +kernel
theorem dX5_clearInput_12 : decode cX5_clearInput 12 = .ok (.putfield 123, 3) := by decide +kernel
theorem dX5_clearInput_15 : decode cX5_clearInput 15 = .ok (.iload_n 1, 1) := by decide +kernel
theorem dX5_clearInput_16 : decode cX5_clearInput 16 = .ok (.ireturn, 1) := by decide +kernel
theorem dX5_spotBy_0 : decode cX5_spotBy 0 = .ok (.iload_n 0, 1) := by decide +kernel
theorem dX5_spotBy_1 : decode cX5_spotBy 1 = .ok (.bipush 114, 2) := by decide +kernel
theorem dX5_spotBy_3 : decode cX5_spotBy 3 = .ok (.if_icmp .ne 7, 3) := by decide +kernel
theorem dX5_spotBy_6 : decode cX5_spotBy 6 = .ok (.iconst 0, 1) := by decide +kernel
theorem dX5_spotBy_7 : decode cX5_spotBy 7 = .ok (.goto 44, 3) := by decide +kernel
theorem dX5_spotBy_10 : decode cX5_spotBy 10 = .ok (.iload_n 0, 1) := by decide +kernel
theorem dX5_spotBy_11 : decode cX5_spotBy 11 = .ok (.bipush 100, 2) := by decide +kernel
theorem dX5_spotBy_13 : decode cX5_spotBy 13 = .ok (.if_icmp .ne 7, 3) := by decide +kernel
theorem dX5_spotBy_16 : decode cX5_spotBy 16 = .ok (.iconst 1, 1) := by decide +kernel
theorem dX5_spotBy_17 : decode cX5_spotBy 17 = .ok (.goto 34, 3) := by decide +kernel
theorem dX5_spotBy_20 : decode cX5_spotBy 20 = .ok (.iload_n 0, 1) := by decide +kernel
theorem dX5_spotBy_21 : decode cX5_spotBy 21 = .ok (.bipush 115, 2) := by decide +kernel
theorem dX5_spotBy_23 : decode cX5_spotBy 23 = .ok (.if_icmp .ne 7, 3) := by decide +kernel
theorem dX5_spotBy_26 : decode cX5_spotBy 26 = .ok (.iconst 2, 1) := by decide +kernel
theorem dX5_spotBy_27 : decode cX5_spotBy 27 = .ok (.goto 24, 3) := by decide +kernel
theorem dX5_spotBy_30 : decode cX5_spotBy 30 = .ok (.iload_n 0, 1) := by decide +kernel
theorem dX5_spotBy_31 : decode cX5_spotBy 31 = .ok (.bipush 108, 2) := by decide +kernel
theorem dX5_spotBy_33 : decode cX5_spotBy 33 = .ok (.if_icmp .ne 7, 3) := by decide +kernel
theorem dX5_spotBy_36 : decode cX5_spotBy 36 = .ok (.iconst 3, 1) := by decide +kernel
theorem dX5_spotBy_37 : decode cX5_spotBy 37 = .ok (.goto 14, 3) := by decide +kernel
theorem dX5_spotBy_40 : decode cX5_spotBy 40 = .ok (.iload_n 0, 1) := by decide +kernel
theorem dX5_spotBy_41 : decode cX5_spotBy 41 = .ok (.bipush 98, 2) := by decide +kernel
theorem dX5_spotBy_43 : decode cX5_spotBy 43 = .ok (.if_icmp .ne 7, 3) := by decide +kernel
theorem dX5_spotBy_46 : decode cX5_spotBy 46 = .ok (.iconst 4, 1) := by decide +kernel
theorem dX5_spotBy_47 : decode cX5_spotBy 47 = .ok (.goto 4, 3) := by decide +kernel
theorem dX5_spotBy_50 : decode cX5_spotBy 50 = .ok (.iconst (-1), 1) := by decide +kernel
theorem dX5_spotBy_51 : decode cX5_spotBy 51 = .ok (.ireturn, 1) := by decide +kernel
set_option maxRecDepth 20000 in
theorem ggX5_takesNumber_X5_within : GoodIn wsX5_takesNumber wsX5_within := goodIn_r _ [8] (by decide +kernel) (by decide +kernel)
set_option maxRecDepth 20000 in
theorem gX5_takesNumber_X5_within : GoodIn wsX5_takesNumber (va_wsS RX5 71 yX5_within wsX5_within) := goodIn_app (goodIn_of _ (by decide +kernel)) ggX5_takesNumber_X5_within
theorem dX5_takesNumber_0 : decode cX5_takesNumber 0 = .ok (.iload_n 1, 1) := by decide +kernel
theorem dX5_takesNumber_1 : decode cX5_takesNumber 1 = .ok (.bipush 45, 2) := by decide +kernel
theorem dX5_takesNumber_3 : decode cX5_takesNumber 3 = .ok (.if_icmp .ne 17, 3) := by decide +kernel
theorem dX5_takesNumber_6 : decode cX5_takesNumber 6 = .ok (.aload_n 0, 1) := by decide +kernel
theorem dX5_takesNumber_7 : decode cX5_takesNumber 7 = .ok (.getfield 126, 3) := by decide +kernel
theorem dX5_takesNumber_10 : decode cX5_takesNumber 10 = .ok (.ifCond .ne 10, 3) := by decide +kernel
theorem dX5_takesNumber_13 : decode cX5_takesNumber 13 = .ok (.aload_n 0, 1) := by decide +kernel
theorem dX5_takesNumber_14 : decode cX5_takesNumber 14 = .ok (.iconst 1, 1) := by decide +kernel
theorem dX5_takesNumber_15 : decode cX5_takesNumber 15 = .ok (.putfield 126, 3) := by decide +kernel
theorem dX5_takesNumber_18 : decode cX5_takesNumber 18 = .ok (.iconst 1, 1) := by decide +kernel
theorem dX5_takesNumber_19 : decode cX5_takesNumber 19 = .ok (.ireturn, 1) := by decide +kernel
theorem dX5_takesNumber_20 : decode cX5_takesNumber 20 = .ok (.iload_n 1, 1) := by decide +kernel
theorem dX5_takesNumber_21 : decode cX5_takesNumber 21 = .ok (.bipush 48, 2) := by decide +kernel
theorem dX5_takesNumber_23 : decode cX5_takesNumber 23 = .ok (.bipush 56, 2) := by decide +kernel
theorem dX5_takesNumber_25 : decode cX5_takesNumber 25 = .ok (.invokestatic 71, 3) := by decide +kernel
theorem dX5_takesNumber_28 : decode cX5_takesNumber 28 = .ok (.istore_n 2, 1) := by decide +kernel
theorem dX5_takesNumber_29 : decode cX5_takesNumber 29 = .ok (.iload_n 2, 1) := by decide +kernel
theorem dX5_takesNumber_30 : decode cX5_takesNumber 30 = .ok (.ifCond .eq 50, 3) := by decide +kernel
theorem dX5_takesNumber_33 : decode cX5_takesNumber 33 = .ok (.aload_n 0, 1) := by decide +kernel
theorem dX5_takesNumber_34 : decode cX5_takesNumber 34 = .ok (.getfield 38, 3) := by decide +kernel
theorem dX5_takesNumber_37 : decode cX5_takesNumber 37 = .ok (.aload_n 0, 1) := by decide +kernel
theorem dX5_takesNumber_38 : decode cX5_takesNumber 38 = .ok (.getfield 130, 3) := by decide +kernel
theorem dX5_takesNumber_41 : decode cX5_takesNumber 41 = .ok (.aload_n 0, 1) := by decide +kernel
theorem dX5_takesNumber_42 : decode cX5_takesNumber 42 = .ok (.getfield 126, 3) := by decide +kernel
theorem dX5_takesNumber_45 : decode cX5_takesNumber 45 = .ok (.ifCond .eq 10, 3) := by decide +kernel
theorem dX5_takesNumber_48 : decode cX5_takesNumber 48 = .ok (.bipush 48, 2) := by decide +kernel
theorem dX5_takesNumber_50 : decode cX5_takesNumber 50 = .ok (.iload_n 1, 1) := by decide +kernel
theorem dX5_takesNumber_51 : decode cX5_takesNumber 51 = .ok (.isub, 1) := by decide +kernel
theorem dX5_takesNumber_52 : decode cX5_takesNumber 52 = .ok (.goto 7, 3) := by decide +kernel
theorem dX5_takesNumber_55 : decode cX5_takesNumber 55 = .ok (.iload_n 1, 1) := by decide +kernel
theorem dX5_takesNumber_56 : decode cX5_takesNumber 56 = .ok (.bipush 48, 2) := by decide +kernel
theorem dX5_takesNumber_58 : decode cX5_takesNumber 58 = .ok (.isub, 1) := by decide +kernel
theorem dX5_takesNumber_59 : decode cX5_takesNumber 59 = .ok (.iastore, 1) := by decide +kernel
theorem dX5_takesNumber_60 : decode cX5_takesNumber 60 = .ok (.aload_n 0, 1) := by decide +kernel
theorem dX5_takesNumber_61 : decode cX5_takesNumber 61 = .ok (.dup, 1) := by decide +kernel
theorem dX5_takesNumber_62 : decode cX5_takesNumber 62 = .ok (.getfield 130, 3) := by decide +kernel
theorem dX5_takesNumber_65 : decode cX5_takesNumber 65 = .ok (.iconst 1, 1) := by decide +kernel
theorem dX5_takesNumber_66 : decode cX5_takesNumber 66 = .ok (.iadd, 1) := by decide +kernel
theorem dX5_takesNumber_67 : decode cX5_takesNumber 67 = .ok (.putfield 130, 3) := by decide +kernel
theorem dX5_takesNumber_70 : decode cX5_takesNumber 70 = .ok (.aload_n 0, 1) := by decide +kernel
theorem dX5_takesNumber_71 : decode cX5_takesNumber 71 = .ok (.iconst 0, 1) := by decide +kernel
theorem dX5_takesNumber_72 : decode cX5_takesNumber 72 = .ok (.putfield 126, 3) := by decide +kernel
theorem dX5_takesNumber_75 : decode cX5_takesNumber 75 = .ok (.aload_n 0, 1) := by decide +kernel
theorem dX5_takesNumber_76 : decode cX5_takesNumber 76 = .ok (.iconst 0, 1) := by decide +kernel
theorem dX5_takesNumber_77 : decode cX5_takesNumber 77 = .ok (.putfield 133, 3) := by decide +kernel
theorem dX5_takesNumber_80 : decode cX5_takesNumber 80 = .ok (.iload_n 2, 1) := by decide +kernel
theorem dX5_takesNumber_81 : decode cX5_takesNumber 81 = .ok (.ireturn, 1) := by decide +kernel
set_option maxRecDepth 20000 in
theorem ggX5_takesBehind_X5_spotBy : GoodIn wsX5_takesBehind wsX5_spotBy := goodIn_r _ [8] (by decide +kernel) (by decide +kernel)
set_option maxRecDepth 20000 in
theorem gX5_takesBehind_X5_spotBy : GoodIn wsX5_takesBehind (va_wsS RX5 139 yX5_spotBy wsX5_spotBy) := goodIn_app (goodIn_of _ (by decide +kernel)) ggX5_takesBehind_X5_spotBy
theorem dX5_takesBehind_0 : decode cX5_takesBehind 0 = .ok (.aload_n 0, 1) := by decide +kernel
theorem dX5_takesBehind_1 : decode cX5_takesBehind 1 = .ok (.getfield 130, 3) := by decide +kernel
theorem dX5_takesBehind_4 : decode cX5_takesBehind 4 = .ok (.iconst 4, 1) := by decide +kernel
theorem dX5_takesBehind_5 : decode cX5_takesBehind 5 = .ok (.if_icmp .ge 36, 3) := by decide +kernel
theorem dX5_takesBehind_8 : decode cX5_takesBehind 8 = .ok (.aload_n 0, 1) := by decide +kernel
theorem dX5_takesBehind_9 : decode cX5_takesBehind 9 = .ok (.iload_n 1, 1) := by decide +kernel
theorem dX5_takesBehind_10 : decode cX5_takesBehind 10 = .ok (.aload_n 0, 1) := by decide +kernel
theorem dX5_takesBehind_11 : decode cX5_takesBehind 11 = .ok (.getfield 130, 3) := by decide +kernel
theorem dX5_takesBehind_14 : decode cX5_takesBehind 14 = .ok (.iconst 2, 1) := by decide +kernel
theorem dX5_takesBehind_15 : decode cX5_takesBehind 15 = .ok (.if_icmp .ne 8, 3) := by decide +kernel
theorem dX5_takesBehind_18 : decode cX5_takesBehind 18 = .ok (.bipush 59, 2) := by decide +kernel
theorem dX5_takesBehind_20 : decode cX5_takesBehind 20 = .ok (.goto 5, 3) := by decide +kernel
theorem dX5_takesBehind_23 : decode cX5_takesBehind 23 = .ok (.bipush 44, 2) := by decide +kernel
theorem dX5_takesBehind_25 : decode cX5_takesBehind 25 = .ok (.if_icmp .ne 7, 3) := by decide +kernel
theorem dX5_takesBehind_28 : decode cX5_takesBehind 28 = .ok (.iconst 1, 1) := by decide +kernel
theorem dX5_takesBehind_29 : decode cX5_takesBehind 29 = .ok (.goto 4, 3) := by decide +kernel
theorem dX5_takesBehind_32 : decode cX5_takesBehind 32 = .ok (.iconst 0, 1) := by decide +kernel
theorem dX5_takesBehind_33 : decode cX5_takesBehind 33 = .ok (.putfield 133, 3) := by decide +kernel
theorem dX5_takesBehind_36 : decode cX5_takesBehind 36 = .ok (.aload_n 0, 1) := by decide +kernel
theorem dX5_takesBehind_37 : decode cX5_takesBehind 37 = .ok (.getfield 133, 3) := by decide +kernel
theorem dX5_takesBehind_40 : decode cX5_takesBehind 40 = .ok (.ireturn, 1) := by decide +kernel
theorem dX5_takesBehind_41 : decode cX5_takesBehind 41 = .ok (.aload_n 0, 1) := by decide +kernel
theorem dX5_takesBehind_42 : decode cX5_takesBehind 42 = .ok (.getfield 136, 3) := by decide +kernel
theorem dX5_takesBehind_45 : decode cX5_takesBehind 45 = .ok (.iconst (-1), 1) := by decide +kernel
theorem dX5_takesBehind_46 : decode cX5_takesBehind 46 = .ok (.if_icmp .ne 25, 3) := by decide +kernel
theorem dX5_takesBehind_49 : decode cX5_takesBehind 49 = .ok (.aload_n 0, 1) := by decide +kernel
theorem dX5_takesBehind_50 : decode cX5_takesBehind 50 = .ok (.iload_n 1, 1) := by decide +kernel
theorem dX5_takesBehind_51 : decode cX5_takesBehind 51 = .ok (.invokestatic 139, 3) := by decide +kernel
theorem dX5_takesBehind_54 : decode cX5_takesBehind 54 = .ok (.putfield 136, 3) := by decide +kernel
theorem dX5_takesBehind_57 : decode cX5_takesBehind 57 = .ok (.aload_n 0, 1) := by decide +kernel
theorem dX5_takesBehind_58 : decode cX5_takesBehind 58 = .ok (.getfield 136, 3) := by decide +kernel
theorem dX5_takesBehind_61 : decode cX5_takesBehind 61 = .ok (.iconst (-1), 1) := by decide +kernel
theorem dX5_takesBehind_62 : decode cX5_takesBehind 62 = .ok (.if_icmp .eq 7, 3) := by decide +kernel
theorem dX5_takesBehind_65 : decode cX5_takesBehind 65 = .ok (.iconst 1, 1) := by decide +kernel
theorem dX5_takesBehind_66 : decode cX5_takesBehind 66 = .ok (.goto 4, 3) := by decide +kernel
theorem dX5_takesBehind_69 : decode cX5_takesBehind 69 = .ok (.iconst 0, 1) := by decide +kernel
theorem dX5_takesBehind_70 : decode cX5_takesBehind 70 = .ok (.ireturn, 1) := by decide +kernel
theorem dX5_takesBehind_71 : decode cX5_takesBehind 71 = .ok (.iload_n 1, 1) := by decide +kernel
theorem dX5_takesBehind_72 : decode cX5_takesBehind 72 = .ok (.bipush 42, 2) := by decide +kernel
theorem dX5_takesBehind_74 : decode cX5_takesBehind 74 = .ok (.if_icmp .ne 14, 3) := by decide +kernel
theorem dX5_takesBehind_77 : decode cX5_takesBehind 77 = .ok (.aload_n 0, 1) := by decide +kernel
theorem dX5_takesBehind_78 : decode cX5_takesBehind 78 = .ok (.getfield 142, 3) := by decide +kernel
theorem dX5_takesBehind_81 : decode cX5_takesBehind 81 = .ok (.ifCond .ne 7, 3) := by decide +kernel
theorem dX5_takesBehind_84 : decode cX5_takesBehind 84 = .ok (.iconst 1, 1) := by decide +kernel
theorem dX5_takesBehind_85 : decode cX5_takesBehind 85 = .ok (.goto 4, 3) := by decide +kernel
theorem dX5_takesBehind_88 : decode cX5_takesBehind 88 = .ok (.iconst 0, 1) := by decide +kernel
theorem dX5_takesBehind_89 : decode cX5_takesBehind 89 = .ok (.istore_n 2, 1) := by decide +kernel
theorem dX5_takesBehind_90 : decode cX5_takesBehind 90 = .ok (.aload_n 0, 1) := by decide +kernel
theorem dX5_takesBehind_91 : decode cX5_takesBehind 91 = .ok (.aload_n 0, 1) := by decide +kernel
theorem dX5_takesBehind_92 : decode cX5_takesBehind 92 = .ok (.getfield 142, 3) := by decide +kernel
theorem dX5_takesBehind_95 : decode cX5_takesBehind 95 = .ok (.ifCond .ne 7, 3) := by decide +kernel
theorem dX5_takesBehind_98 : decode cX5_takesBehind 98 = .ok (.iload_n 2, 1) := by decide +kernel
theorem dX5_takesBehind_99 : decode cX5_takesBehind 99 = .ok (.ifCond .eq 7, 3) := by decide +kernel
theorem dX5_takesBehind_102 : decode cX5_takesBehind 102 = .ok (.iconst 1, 1) := by decide +kernel
theorem dX5_takesBehind_103 : decode cX5_takesBehind 103 = .ok (.goto 4, 3) := by decide +kernel
theorem dX5_takesBehind_106 : decode cX5_takesBehind 106 = .ok (.iconst 0, 1) := by decide +kernel
theorem dX5_takesBehind_107 : decode cX5_takesBehind 107 = .ok (.putfield 142, 3) := by decide +kernel
theorem dX5_takesBehind_110 : decode cX5_takesBehind 110 = .ok (.iload_n 2, 1) := by decide +kernel
theorem dX5_takesBehind_111 : decode cX5_takesBehind 111 = .ok (.ireturn, 1) := by decide +kernel
set_option maxRecDepth 20000 in
theorem ggX5_rightLength_X5_takesNumber : GoodIn wsX5_rightLength wsX5_takesNumber := goodIn_r _ [12, 2, 13, 1, 5, 14, 15, 11, 16, 24, 25, 26, 27, 28, 29, 30, 31, 32, 33, 34, 35, 36, 37, 38, 39, 40, 41, 42, 43, 44, 45, 46, 47, 48, 49, 50, 51, 52, 53, 54, 55, 56, 57, 58] (by decide +kernel) (by decide +kernel)
set_option maxRecDepth 20000 in
theorem gX5_rightLength_X5_takesNumber : GoodIn wsX5_rightLength (wsV RX5 145 RX5 yX5_takesNumber wsX5_takesNumber) := goodIn_app (goodIn_of _ (by decide +kernel)) ggX5_rightLength_X5_takesNumber
set_option maxRecDepth 20000 in
theorem ggX5_rightLength_X5_takesBehind : GoodIn wsX5_rightLength wsX5_takesBehind := goodIn_r _ [20, 1, 5, 3, 4, 21, 22, 11, 23, 24, 25, 26, 27, 28, 29, 30, 31, 32, 33, 34, 35, 36, 37, 38, 39, 40, 41, 42, 43, 44, 45, 46, 47, 48, 49, 50, 51, 52, 53, 54, 55, 56, 57, 58] (by decide +kernel) (by decide +kernel)
set_option maxRecDepth 20000 in
theorem gX5_rightLength_X5_takesBehind : GoodIn wsX5_rightLength (wsV RX5 148 RX5 yX5_takesBehind wsX5_takesBehind) := goodIn_app (goodIn_of _ (by decide +kernel)) ggX5_rightLength_X5_takesBehind
theorem dX5_rightLength_0 : decode cX5_rightLength 0 = .ok (.aload_n 0, 1) := by decide +kernel
theorem dX5_rightLength_1 : decode cX5_rightLength 1 = .ok (.iconst 0, 1) := by decide +kernel
theorem dX5_rightLength_2 : decode cX5_rightLength 2 = .ok (.putfield 130, 3) := by decide +kernel
theorem dX5_rightLength_5 : decode cX5_rightLength 5 = .ok (.aload_n 0, 1) := by decide +kernel
theorem dX5_rightLength_6 : decode cX5_rightLength 6 = .ok (.iconst 0, 1) := by decide +kernel
theorem dX5_rightLength_7 : decode cX5_rightLength 7 = .ok (.putfield 126, 3) := by decide +kernel
theorem dX5_rightLength_10 : decode cX5_rightLength 10 = .ok (.aload_n 0, 1) := by decide +kernel
theorem dX5_rightLength_11 : decode cX5_rightLength 11 = .ok (.iconst (-1), 1) := by decide +kernel
theorem dX5_rightLength_12 : decode cX5_rightLength 12 = .ok (.putfield 136, 3) := by decide +kernel
theorem dX5_rightLength_15 : decode cX5_rightLength 15 = .ok (.aload_n 0, 1) := by decide +kernel
theorem dX5_rightLength_16 : decode cX5_rightLength 16 = .ok (.iconst 0, 1) := by decide +kernel
theorem dX5_rightLength_17 : decode cX5_rightLength 17 = .ok (.putfield 142, 3) := by decide +kernel
theorem dX5_rightLength_20 : decode cX5_rightLength 20 = .ok (.aload_n 0, 1) := by decide +kernel
theorem dX5_rightLength_21 : decode cX5_rightLength 21 = .ok (.iconst 1, 1) := by decide +kernel
theorem dX5_rightLength_22 : decode cX5_rightLength 22 = .ok (.putfield 133, 3) := by decide +kernel
theorem dX5_rightLength_25 : decode cX5_rightLength 25 = .ok (.iconst 0, 1) := by decide +kernel
theorem dX5_rightLength_26 : decode cX5_rightLength 26 = .ok (.istore_n 1, 1) := by decide +kernel
theorem dX5_rightLength_27 : decode cX5_rightLength 27 = .ok (.iload_n 1, 1) := by decide +kernel
theorem dX5_rightLength_28 : decode cX5_rightLength 28 = .ok (.aload_n 0, 1) := by decide +kernel
theorem dX5_rightLength_29 : decode cX5_rightLength 29 = .ok (.getfield 123, 3) := by decide +kernel
theorem dX5_rightLength_32 : decode cX5_rightLength 32 = .ok (.if_icmp .ge 45, 3) := by decide +kernel
theorem dX5_rightLength_35 : decode cX5_rightLength 35 = .ok (.aload_n 0, 1) := by decide +kernel
theorem dX5_rightLength_36 : decode cX5_rightLength 36 = .ok (.getfield 133, 3) := by decide +kernel
theorem dX5_rightLength_39 : decode cX5_rightLength 39 = .ok (.ifCond .eq 19, 3) := by decide +kernel
theorem dX5_rightLength_42 : decode cX5_rightLength 42 = .ok (.aload_n 0, 1) := by decide +kernel
theorem dX5_rightLength_43 : decode cX5_rightLength 43 = .ok (.aload_n 0, 1) := by decide +kernel
theorem dX5_rightLength_44 : decode cX5_rightLength 44 = .ok (.getfield 26, 3) := by decide +kernel
theorem dX5_rightLength_47 : decode cX5_rightLength 47 = .ok (.iload_n 1, 1) := by decide +kernel
theorem dX5_rightLength_48 : decode cX5_rightLength 48 = .ok (.iaload, 1) := by decide +kernel
theorem dX5_rightLength_49 : decode cX5_rightLength 49 = .ok (.invokevirtual 145, 3) := by decide +kernel
theorem dX5_rightLength_52 : decode cX5_rightLength 52 = .ok (.ifCond .eq 25, 3) := by decide +kernel
theorem dX5_rightLength_55 : decode cX5_rightLength 55 = .ok (.goto 16, 3) := by decide +kernel
theorem dX5_rightLength_58 : decode cX5_rightLength 58 = .ok (.aload_n 0, 1) := by decide +kernel
theorem dX5_rightLength_59 : decode cX5_rightLength 59 = .ok (.aload_n 0, 1) := by decide +kernel
theorem dX5_rightLength_60 : decode cX5_rightLength 60 = .ok (.getfield 26, 3) := by decide +kernel
theorem dX5_rightLength_63 : decode cX5_rightLength 63 = .ok (.iload_n 1, 1) := by decide +kernel
theorem dX5_rightLength_64 : decode cX5_rightLength 64 = .ok (.iaload, 1) := by decide +kernel
theorem dX5_rightLength_65 : decode cX5_rightLength 65 = .ok (.invokevirtual 148, 3) := by decide +kernel
theorem dX5_rightLength_68 : decode cX5_rightLength 68 = .ok (.ifCond .eq 9, 3) := by decide +kernel
theorem dX5_rightLength_71 : decode cX5_rightLength 71 = .ok (.iinc 1 1, 3) := by decide +kernel
theorem dX5_rightLength_74 : decode cX5_rightLength 74 = .ok (.goto (-47), 3) := by decide +kernel
theorem dX5_rightLength_77 : decode cX5_rightLength 77 = .ok (.iload_n 1, 1) := by decide +kernel
theorem dX5_rightLength_78 : decode cX5_rightLength 78 = .ok (.ireturn, 1) := by decide +kernel
set_option maxRecDepth 20000 in
theorem ggX5_firstError_X5_rightLength : GoodIn wsX5_firstError wsX5_rightLength := goodIn_r _ [6, 7, 8, 9, 10, 11, 12, 13, 14, 15, 16, 5, 17, 18, 19, 20, 21, 22, 23, 24, 25, 26, 27, 28, 29, 30, 31, 32, 33, 34, 35, 36, 37, 38, 39, 40, 41, 42, 43, 44, 45, 46, 47, 48, 49, 50, 51, 52, 53, 54, 55, 56, 57, 58, 59, 60, 61, 62, 63] (by decide +kernel) (by decide +kernel)
set_option maxRecDepth 20000 in
theorem gX5_firstError_X5_rightLength : GoodIn wsX5_firstError (wsV RX5 151 RX5 yX5_rightLength wsX5_rightLength) := goodIn_app (goodIn_of _ (by decide +kernel)) ggX5_firstError_X5_rightLength
theorem dX5_firstError_0 : decode cX5_firstError 0 = .ok (.aload_n 0, 1) := by decide +kernel
theorem dX5_firstError_1 : decode cX5_firstError 1 = .ok (.iconst 0, 1) := by decide +kernel
theorem dX5_firstError_2 : decode cX5_firstError 2 = .ok (.putfield 59, 3) := by decide +kernel
theorem dX5_firstError_5 : decode cX5_firstError 5 = .ok (.aload_n 0, 1) := by decide +kernel
theorem dX5_firstError_6 : decode cX5_firstError 6 = .ok (.invokevirtual 151, 3) := by decide +kernel
theorem dX5_firstError_9 : decode cX5_firstError 9 = .ok (.ireturn, 1) := by decide +kernel
theorem dX5_put_0 : decode cX5_put 0 = .ok (.aload_n 0, 1) := by decide +kernel
theorem dX5_put_1 : decode cX5_put 1 = .ok (.getfield 13, 3) := by decide +kernel
theorem dX5_put_4 : decode cX5_put 4 = .ok (.iconst 4, 1) := by decide +kernel
theorem dX5_put_5 : decode cX5_put 5 = .ok (.iload_n 1, 1) := by decide +kernel
theorem dX5_put_6 : decode cX5_put 6 = .ok (.imul, 1) := by decide +kernel
theorem dX5_put_7 : decode cX5_put 7 = .ok (.iload_n 2, 1) := by decide +kernel
theorem dX5_put_8 : decode cX5_put 8 = .ok (.iastore, 1) := by decide +kernel
theorem dX5_put_9 : decode cX5_put 9 = .ok (.aload_n 0, 1) := by decide +kernel
theorem dX5_put_10 : decode cX5_put 10 = .ok (.getfield 13, 3) := by decide +kernel
theorem dX5_put_13 : decode cX5_put 13 = .ok (.iconst 4, 1) := by decide +kernel
theorem dX5_put_14 : decode cX5_put 14 = .ok (.iload_n 1, 1) := by decide +kernel
theorem dX5_put_15 : decode cX5_put 15 = .ok (.imul, 1) := by decide +kernel
theorem dX5_put_16 : decode cX5_put 16 = .ok (.iconst 1, 1) := by decide +kernel
theorem dX5_put_17 : decode cX5_put 17 = .ok (.iadd, 1) := by decide +kernel
theorem dX5_put_18 : decode cX5_put 18 = .ok (.iload_n 3, 1) := by decide +kernel
theorem dX5_put_19 : decode cX5_put 19 = .ok (.iastore, 1) := by decide +kernel
theorem dX5_put_20 : decode cX5_put 20 = .ok (.aload_n 0, 1) := by decide +kernel
theorem dX5_put_21 : decode cX5_put 21 = .ok (.getfield 13, 3) := by decide +kernel
theorem dX5_put_24 : decode cX5_put 24 = .ok (.iconst 4, 1) := by decide +kernel
theorem dX5_put_25 : decode cX5_put 25 = .ok (.iload_n 1, 1) := by decide +kernel
theorem dX5_put_26 : decode cX5_put 26 = .ok (.imul, 1) := by decide +kernel
theorem dX5_put_27 : decode cX5_put 27 = .ok (.iconst 2, 1) := by decide +kernel
theorem dX5_put_28 : decode cX5_put 28 = .ok (.iadd, 1) := by decide +kernel
theorem dX5_put_29 : decode cX5_put 29 = .ok (.iload 4, 2) := by decide +kernel
theorem dX5_put_31 : decode cX5_put 31 = .ok (.iastore, 1) := by decide +kernel
theorem dX5_put_32 : decode cX5_put 32 = .ok (.aload_n 0, 1) := by decide +kernel
theorem dX5_put_33 : decode cX5_put 33 = .ok (.getfield 13, 3) := by decide +kernel
theorem dX5_put_36 : decode cX5_put 36 = .ok (.iconst 4, 1) := by decide +kernel
theorem dX5_put_37 : decode cX5_put 37 = .ok (.iload_n 1, 1) := by decide +kernel
theorem dX5_put_38 : decode cX5_put 38 = .ok (.imul, 1) := by decide +kernel
theorem dX5_put_39 : decode cX5_put 39 = .ok (.iconst 3, 1) := by decide +kernel
theorem dX5_put_40 : decode cX5_put 40 = .ok (.iadd, 1) := by decide +kernel
theorem dX5_put_41 : decode cX5_put 41 = .ok (.iload 5, 2) := by decide +kernel
theorem dX5_put_43 : decode cX5_put 43 = .ok (.iastore, 1) := by decide +kernel
theorem dX5_put_44 : decode cX5_put 44 = .ok (.aload_n 0, 1) := by decide +kernel
theorem dX5_put_45 : decode cX5_put 45 = .ok (.getfield 17, 3) := by decide +kernel
theorem dX5_put_48 : decode cX5_put 48 = .ok (.iload_n 1, 1) := by decide +kernel
theorem dX5_put_49 : decode cX5_put 49 = .ok (.iload 6, 2) := by decide +kernel
theorem dX5_put_51 : decode cX5_put 51 = .ok (.iastore, 1) := by decide +kernel
theorem dX5_put_52 : decode cX5_put 52 = .ok (.aload_n 0, 1) := by decide +kernel
theorem dX5_put_53 : decode cX5_put 53 = .ok (.getfield 20, 3) := by decide +kernel
theorem dX5_put_56 : decode cX5_put 56 = .ok (.iload_n 1, 1) := by decide +kernel
theorem dX5_put_57 : decode cX5_put 57 = .ok (.iconst 0, 1) := by decide +kernel
theorem dX5_put_58 : decode cX5_put 58 = .ok (.bastore, 1) := by decide +kernel
theorem dX5_put_59 : decode cX5_put 59 = .ok (.aload_n 0, 1) := by decide +kernel
theorem dX5_put_60 : decode cX5_put 60 = .ok (.getfield 23, 3) := by decide +kernel
theorem dX5_put_63 : decode cX5_put 63 = .ok (.iload_n 1, 1) := by decide +kernel
theorem dX5_put_64 : decode cX5_put 64 = .ok (.iconst 0, 1) := by decide +kernel
theorem dX5_put_65 : decode cX5_put 65 = .ok (.iastore, 1) := by decide +kernel
theorem dX5_put_66 : decode cX5_put 66 = .ok (.aload_n 0, 1) := by decide +kernel
theorem dX5_put_67 : decode cX5_put 67 = .ok (.getfield 7, 3) := by decide +kernel
theorem dX5_put_70 : decode cX5_put 70 = .ok (.iload_n 1, 1) := by decide +kernel
theorem dX5_put_71 : decode cX5_put 71 = .ok (.iconst 1, 1) := by decide +kernel
theorem dX5_put_72 : decode cX5_put 72 = .ok (.bastore, 1) := by decide +kernel
theorem dX5_put_73 : decode cX5_put 73 = .ok (.return_, 1) := by decide +kernel
set_option maxRecDepth 20000 in
theorem ggX5_load_X5_rightLength : GoodIn wsX5_load wsX5_rightLength := goodIn_r _ [11, 12, 13, 2, 6, 14, 1, 15, 16, 17, 18, 10, 19, 3, 20, 21, 22, 23, 24, 25, 26, 27, 28, 29, 51, 52, 53, 54, 55, 56, 57, 58, 59, 60, 61, 62, 63, 64, 65, 66, 67, 68, 69, 70, 71, 72, 73, 74, 75, 76, 77, 78, 79, 80, 81, 82, 83, 84, 85] (by decide +kernel) (by decide +kernel)
set_option maxRecDepth 20000 in
theorem gX5_load_X5_rightLength : GoodIn wsX5_load (wsV RX5 151 RX5 yX5_rightLength wsX5_rightLength) := goodIn_app (goodIn_of _ (by decide +kernel)) ggX5_load_X5_rightLength
set_option maxRecDepth 20000 in
theorem ggX5_load_X5_areaOf : GoodIn wsX5_load wsX5_areaOf := goodIn_r _ [32, 33, 34, 10, 35] (by decide +kernel) (by decide +kernel)
set_option maxRecDepth 20000 in
theorem gX5_load_X5_areaOf : GoodIn wsX5_load (va_wsS RX5 85 yX5_areaOf wsX5_areaOf) := goodIn_app (goodIn_of _ (by decide +kernel)) ggX5_load_X5_areaOf
set_option maxRecDepth 20000 in
theorem ggX5_load_X5_within : GoodIn wsX5_load wsX5_within := goodIn_r _ [22] (by decide +kernel) (by decide +kernel)
set_option maxRecDepth 20000 in
theorem gX5_load_X5_within : GoodIn wsX5_load (va_wsS RX5 71 yX5_within wsX5_within) := goodIn_app (goodIn_of _ (by decide +kernel)) ggX5_load_X5_within
set_option maxRecDepth 20000 in
theorem ggX5_load_X5_isSlot : GoodIn wsX5_load wsX5_isSlot := goodIn_r _ [38, 20, 21, 10, 22] (by decide +kernel) (by decide +kernel)
set_option maxRecDepth 20000 in
theorem gX5_load_X5_isSlot : GoodIn wsX5_load (va_wsS RX5 75 yX5_isSlot wsX5_isSlot) := goodIn_app (goodIn_of _ (by decide +kernel)) ggX5_load_X5_isSlot
set_option maxRecDepth 20000 in
theorem ggX5_load_X5_put : GoodIn wsX5_load wsX5_put := goodIn_r _ [42, 43, 44, 5, 45, 46, 51, 52, 53, 54, 55, 56, 57, 58, 59, 60, 61, 62, 63, 64, 65, 66, 67, 68, 69, 70, 71, 72, 73, 74, 75, 76, 77, 78, 79, 80, 81, 82, 83, 84, 85] (by decide +kernel) (by decide +kernel)
set_option maxRecDepth 20000 in
theorem gX5_load_X5_put : GoodIn wsX5_load (wsV RX5 155 RX5 yX5_put wsX5_put) := goodIn_app (goodIn_of _ (by decide +kernel)) ggX5_load_X5_put
set_option maxRecDepth 20000 in
theorem ggX5_load_X5_areaIn : GoodIn wsX5_load wsX5_areaIn := goodIn_r _ [50, 43, 30, 31, 10, 32, 33, 34, 35, 51, 52, 53, 54, 55, 56, 57, 58, 59, 60, 61, 62, 63, 64, 65, 66, 67, 68, 69, 70, 71, 72, 73, 74, 75, 76, 77, 78, 79, 80, 81, 82, 83, 84, 85] (by decide +kernel) (by decide +kernel)
set_option maxRecDepth 20000 in
theorem gX5_load_X5_areaIn : GoodIn wsX5_load (wsV RX5 102 RX5 yX5_areaIn wsX5_areaIn) := goodIn_app (goodIn_of _ (by decide +kernel)) ggX5_load_X5_areaIn
theorem dX5_load_0 : decode cX5_load 0 = .ok (.aload_n 0, 1) := by decide +kernel
theorem dX5_load_1 : decode cX5_load 1 = .ok (.invokevirtual 151, 3) := by decide +kernel
theorem dX5_load_4 : decode cX5_load 4 = .ok (.aload_n 0, 1) := by decide +kernel
theorem dX5_load_5 : decode cX5_load 5 = .ok (.getfield 123, 3) := by decide +kernel
theorem dX5_load_8 : decode cX5_load 8 = .ok (.if_icmp .ne 15, 3) := by decide +kernel
theorem dX5_load_11 : decode cX5_load 11 = .ok (.aload_n 0, 1) := by decide +kernel
theorem dX5_load_12 : decode cX5_load 12 = .ok (.getfield 136, 3) := by decide +kernel
theorem dX5_load_15 : decode cX5_load 15 = .ok (.iconst (-1), 1) := by decide +kernel
theorem dX5_load_16 : decode cX5_load 16 = .ok (.if_icmp .eq 7, 3) := by decide +kernel
theorem dX5_load_19 : decode cX5_load 19 = .ok (.iconst 1, 1) := by decide +kernel
theorem dX5_load_20 : decode cX5_load 20 = .ok (.goto 4, 3) := by decide +kernel
theorem dX5_load_23 : decode cX5_load 23 = .ok (.iconst 0, 1) := by decide +kernel
theorem dX5_load_24 : decode cX5_load 24 = .ok (.istore_n 2, 1) := by decide +kernel
theorem dX5_load_25 : decode cX5_load 25 = .ok (.aload_n 0, 1) := by decide +kernel
theorem dX5_load_26 : decode cX5_load 26 = .ok (.getfield 38, 3) := by decide +kernel
theorem dX5_load_29 : decode cX5_load 29 = .ok (.iconst 0, 1) := by decide +kernel
theorem dX5_load_30 : decode cX5_load 30 = .ok (.iaload, 1) := by decide +kernel
theorem dX5_load_31 : decode cX5_load 31 = .ok (.aload_n 0, 1) := by decide +kernel
theorem dX5_load_32 : decode cX5_load 32 = .ok (.getfield 38, 3) := by decide +kernel
theorem dX5_load_35 : decode cX5_load 35 = .ok (.iconst 1, 1) := by decide +kernel
theorem dX5_load_36 : decode cX5_load 36 = .ok (.iaload, 1) := by decide +kernel
theorem dX5_load_37 : decode cX5_load 37 = .ok (.aload_n 0, 1) := by decide +kernel
theorem dX5_load_38 : decode cX5_load 38 = .ok (.getfield 38, 3) := by decide +kernel
theorem dX5_load_41 : decode cX5_load 41 = .ok (.iconst 2, 1) := by decide +kernel
theorem dX5_load_42 : decode cX5_load 42 = .ok (.iaload, 1) := by decide +kernel
theorem dX5_load_43 : decode cX5_load 43 = .ok (.aload_n 0, 1) := by decide +kernel
theorem dX5_load_44 : decode cX5_load 44 = .ok (.getfield 38, 3) := by decide +kernel
theorem dX5_load_47 : decode cX5_load 47 = .ok (.iconst 3, 1) := by decide +kernel
theorem dX5_load_48 : decode cX5_load 48 = .ok (.iaload, 1) := by decide +kernel
theorem dX5_load_49 : decode cX5_load 49 = .ok (.invokestatic 85, 3) := by decide +kernel
theorem dX5_load_52 : decode cX5_load 52 = .ok (.iconst 1, 1) := by decide +kernel
theorem dX5_load_53 : decode cX5_load 53 = .ok (.bipush 64, 2) := by decide +kernel
theorem dX5_load_55 : decode cX5_load 55 = .ok (.invokestatic 71, 3) := by decide +kernel
theorem dX5_load_58 : decode cX5_load 58 = .ok (.istore_n 3, 1) := by decide +kernel
theorem dX5_load_59 : decode cX5_load 59 = .ok (.aload_n 0, 1) := by decide +kernel
theorem dX5_load_60 : decode cX5_load 60 = .ok (.iload_n 1, 1) := by decide +kernel
theorem dX5_load_61 : decode cX5_load 61 = .ok (.invokestatic 75, 3) := by decide +kernel
theorem dX5_load_64 : decode cX5_load 64 = .ok (.ifCond .ne 7, 3) := by decide +kernel
theorem dX5_load_67 : decode cX5_load 67 = .ok (.iconst 1, 1) := by decide +kernel
theorem dX5_load_68 : decode cX5_load 68 = .ok (.goto 20, 3) := by decide +kernel
theorem dX5_load_71 : decode cX5_load 71 = .ok (.iload_n 2, 1) := by decide +kernel
theorem dX5_load_72 : decode cX5_load 72 = .ok (.ifCond .ne 7, 3) := by decide +kernel
theorem dX5_load_75 : decode cX5_load 75 = .ok (.iconst 2, 1) := by decide +kernel
theorem dX5_load_76 : decode cX5_load 76 = .ok (.goto 12, 3) := by decide +kernel
theorem dX5_load_79 : decode cX5_load 79 = .ok (.iload_n 3, 1) := by decide +kernel
theorem dX5_load_80 : decode cX5_load 80 = .ok (.ifCond .eq 7, 3) := by decide +kernel
theorem dX5_load_83 : decode cX5_load 83 = .ok (.iconst 0, 1) := by decide +kernel
theorem dX5_load_84 : decode cX5_load 84 = .ok (.goto 4, 3) := by decide +kernel
theorem dX5_load_87 : decode cX5_load 87 = .ok (.iconst 3, 1) := by decide +kernel
theorem dX5_load_88 : decode cX5_load 88 = .ok (.putfield 59, 3) := by decide +kernel
theorem dX5_load_91 : decode cX5_load 91 = .ok (.aload_n 0, 1) := by decide +kernel
theorem dX5_load_92 : decode cX5_load 92 = .ok (.getfield 59, 3) := by decide +kernel
theorem dX5_load_95 : decode cX5_load 95 = .ok (.ifCond .le 5, 3) := by decide +kernel
theorem dX5_load_98 : decode cX5_load 98 = .ok (.iconst 0, 1) := by decide +kernel
theorem dX5_load_99 : decode cX5_load 99 = .ok (.ireturn, 1) := by decide +kernel
theorem dX5_load_100 : decode cX5_load 100 = .ok (.aload_n 0, 1) := by decide +kernel
theorem dX5_load_101 : decode cX5_load 101 = .ok (.iload_n 1, 1) := by decide +kernel
theorem dX5_load_102 : decode cX5_load 102 = .ok (.aload_n 0, 1) := by decide +kernel
theorem dX5_load_103 : decode cX5_load 103 = .ok (.getfield 38, 3) := by decide +kernel
theorem dX5_load_106 : decode cX5_load 106 = .ok (.iconst 0, 1) := by decide +kernel
theorem dX5_load_107 : decode cX5_load 107 = .ok (.iaload, 1) := by decide +kernel
theorem dX5_load_108 : decode cX5_load 108 = .ok (.aload_n 0, 1) := by decide +kernel
theorem dX5_load_109 : decode cX5_load 109 = .ok (.getfield 38, 3) := by decide +kernel
theorem dX5_load_112 : decode cX5_load 112 = .ok (.iconst 1, 1) := by decide +kernel
theorem dX5_load_113 : decode cX5_load 113 = .ok (.iaload, 1) := by decide +kernel
theorem dX5_load_114 : decode cX5_load 114 = .ok (.aload_n 0, 1) := by decide +kernel
theorem dX5_load_115 : decode cX5_load 115 = .ok (.getfield 38, 3) := by decide +kernel
theorem dX5_load_118 : decode cX5_load 118 = .ok (.iconst 2, 1) := by decide +kernel
theorem dX5_load_119 : decode cX5_load 119 = .ok (.iaload, 1) := by decide +kernel
theorem dX5_load_120 : decode cX5_load 120 = .ok (.aload_n 0, 1) := by decide +kernel
theorem dX5_load_121 : decode cX5_load 121 = .ok (.getfield 38, 3) := by decide +kernel
theorem dX5_load_124 : decode cX5_load 124 = .ok (.iconst 3, 1) := by decide +kernel
theorem dX5_load_125 : decode cX5_load 125 = .ok (.iaload, 1) := by decide +kernel
theorem dX5_load_126 : decode cX5_load 126 = .ok (.aload_n 0, 1) := by decide +kernel
theorem dX5_load_127 : decode cX5_load 127 = .ok (.getfield 136, 3) := by decide +kernel
theorem dX5_load_130 : decode cX5_load 130 = .ok (.invokevirtual 155, 3) := by decide +kernel
theorem dX5_load_133 : decode cX5_load 133 = .ok (.aload_n 0, 1) := by decide +kernel
theorem dX5_load_134 : decode cX5_load 134 = .ok (.getfield 20, 3) := by decide +kernel
theorem dX5_load_137 : decode cX5_load 137 = .ok (.iload_n 1, 1) := by decide +kernel
theorem dX5_load_138 : decode cX5_load 138 = .ok (.aload_n 0, 1) := by decide +kernel
theorem dX5_load_139 : decode cX5_load 139 = .ok (.getfield 142, 3) := by decide +kernel
theorem dX5_load_142 : decode cX5_load 142 = .ok (.bastore, 1) := by decide +kernel
theorem dX5_load_143 : decode cX5_load 143 = .ok (.aload_n 0, 1) := by decide +kernel
theorem dX5_load_144 : decode cX5_load 144 = .ok (.iconst 0, 1) := by decide +kernel
theorem dX5_load_145 : decode cX5_load 145 = .ok (.putfield 123, 3) := by decide +kernel
theorem dX5_load_148 : decode cX5_load 148 = .ok (.aload_n 0, 1) := by decide +kernel
theorem dX5_load_149 : decode cX5_load 149 = .ok (.iload_n 1, 1) := by decide +kernel
theorem dX5_load_150 : decode cX5_load 150 = .ok (.invokevirtual 102, 3) := by decide +kernel
theorem dX5_load_153 : decode cX5_load 153 = .ok (.ireturn, 1) := by decide +kernel
set_option maxRecDepth 20000 in
theorem ggX5_isPart_X5_within : GoodIn wsX5_isPart wsX5_within := goodIn_r _ [4] (by decide +kernel) (by decide +kernel)
set_option maxRecDepth 20000 in
theorem gX5_isPart_X5_within : GoodIn wsX5_isPart (va_wsS RX5 71 yX5_within wsX5_within) := goodIn_app (goodIn_of _ (by decide +kernel)) ggX5_isPart_X5_within
theorem dX5_isPart_0 : decode cX5_isPart 0 = .ok (.iload_n 0, 1) := by decide +kernel
theorem dX5_isPart_1 : decode cX5_isPart 1 = .ok (.bipush (-8), 2) := by decide +kernel
theorem dX5_isPart_3 : decode cX5_isPart 3 = .ok (.bipush 8, 2) := by decide +kernel
theorem dX5_isPart_5 : decode cX5_isPart 5 = .ok (.invokestatic 71, 3) := by decide +kernel
theorem dX5_isPart_8 : decode cX5_isPart 8 = .ok (.ireturn, 1) := by decide +kernel
set_option maxRecDepth 20000 in
theorem ggX5_setScreen_X5_isPart : GoodIn wsX5_setScreen wsX5_isPart := goodIn_r _ [5, 6, 7, 4, 8] (by decide +kernel) (by decide +kernel)
set_option maxRecDepth 20000 in
theorem gX5_setScreen_X5_isPart : GoodIn wsX5_setScreen (va_wsS RX5 159 yX5_isPart wsX5_isPart) := goodIn_app (goodIn_of _ (by decide +kernel)) ggX5_setScreen_X5_isPart
set_option maxRecDepth 20000 in
theorem ggX5_setScreen_X5_within : GoodIn wsX5_setScreen wsX5_within := goodIn_r _ [8] (by decide +kernel) (by decide +kernel)
set_option maxRecDepth 20000 in
theorem gX5_setScreen_X5_within : GoodIn wsX5_setScreen (va_wsS RX5 71 yX5_within wsX5_within) := goodIn_app (goodIn_of _ (by decide +kernel)) ggX5_setScreen_X5_within
set_option maxRecDepth 20000 in
theorem ggX5_setScreen_X5_areaOf : GoodIn wsX5_setScreen wsX5_areaOf := goodIn_r _ [11, 12, 13, 4, 14] (by decide +kernel) (by decide +kernel)
set_option maxRecDepth 20000 in
theorem gX5_setScreen_X5_areaOf : GoodIn wsX5_setScreen (va_wsS RX5 85 yX5_areaOf wsX5_areaOf) := goodIn_app (goodIn_of _ (by decide +kernel)) ggX5_setScreen_X5_areaOf
set_option maxRecDepth 20000 in
theorem ggX5_setScreen_X5_isSlot : GoodIn wsX5_setScreen wsX5_isSlot := goodIn_r _ [17, 6, 7, 4, 8] (by decide +kernel) (by decide +kernel)
set_option maxRecDepth 20000 in
theorem gX5_setScreen_X5_isSlot : GoodIn wsX5_setScreen (va_wsS RX5 75 yX5_isSlot wsX5_isSlot) := goodIn_app (goodIn_of _ (by decide +kernel)) ggX5_setScreen_X5_isSlot
set_option maxRecDepth 20000 in
theorem ggX5_setScreen_X5_put : GoodIn wsX5_setScreen wsX5_put := goodIn_r _ [21, 22, 23, 24, 25, 26, 31, 32, 33, 34, 35, 36, 37, 38, 39, 40, 41, 42, 43, 44, 45, 46, 47, 48, 49, 50, 51, 52, 53, 54, 55, 56, 57, 58, 59, 60, 61, 62, 63, 64, 65] (by decide +kernel) (by decide +kernel)
set_option maxRecDepth 20000 in
theorem gX5_setScreen_X5_put : GoodIn wsX5_setScreen (wsV RX5 155 RX5 yX5_put wsX5_put) := goodIn_app (goodIn_of _ (by decide +kernel)) ggX5_setScreen_X5_put
set_option maxRecDepth 20000 in
theorem ggX5_setScreen_X5_areaIn : GoodIn wsX5_setScreen wsX5_areaIn := goodIn_r _ [30, 22, 9, 10, 4, 11, 12, 13, 14, 31, 32, 33, 34, 35, 36, 37, 38, 39, 40, 41, 42, 43, 44, 45, 46, 47, 48, 49, 50, 51, 52, 53, 54, 55, 56, 57, 58, 59, 60, 61, 62, 63, 64, 65] (by decide +kernel) (by decide +kernel)
set_option maxRecDepth 20000 in
theorem gX5_setScreen_X5_areaIn : GoodIn wsX5_setScreen (wsV RX5 102 RX5 yX5_areaIn wsX5_areaIn) := goodIn_app (goodIn_of _ (by decide +kernel)) ggX5_setScreen_X5_areaIn
theorem dX5_setScreen_0 : decode cX5_setScreen 0 = .ok (.iload_n 2, 1) := by decide +kernel
theorem dX5_setScreen_1 : decode cX5_setScreen 1 = .ok (.invokestatic 159, 3) := by decide +kernel
theorem dX5_setScreen_4 : decode cX5_setScreen 4 = .ok (.ifCond .eq 30, 3) := by decide +kernel
theorem dX5_setScreen_7 : decode cX5_setScreen 7 = .ok (.iload_n 3, 1) := by decide +kernel
theorem dX5_setScreen_8 : decode cX5_setScreen 8 = .ok (.invokestatic 159, 3) := by decide +kernel
theorem dX5_setScreen_11 : decode cX5_setScreen 11 = .ok (.ifCond .eq 23, 3) := by decide +kernel
theorem dX5_setScreen_14 : decode cX5_setScreen 14 = .ok (.iload 4, 2) := by decide +kernel
theorem dX5_setScreen_16 : decode cX5_setScreen 16 = .ok (.invokestatic 159, 3) := by decide +kernel
theorem dX5_setScreen_19 : decode cX5_setScreen 19 = .ok (.ifCond .eq 15, 3) := by decide +kernel
theorem dX5_setScreen_22 : decode cX5_setScreen 22 = .ok (.iload 5, 2) := by decide +kernel
theorem dX5_setScreen_24 : decode cX5_setScreen 24 = .ok (.invokestatic 159, 3) := by decide +kernel
theorem dX5_setScreen_27 : decode cX5_setScreen 27 = .ok (.ifCond .eq 7, 3) := by decide +kernel
theorem dX5_setScreen_30 : decode cX5_setScreen 30 = .ok (.iconst 1, 1) := by decide +kernel
theorem dX5_setScreen_31 : decode cX5_setScreen 31 = .ok (.goto 4, 3) := by decide +kernel
theorem dX5_setScreen_34 : decode cX5_setScreen 34 = .ok (.iconst 0, 1) := by decide +kernel
theorem dX5_setScreen_35 : decode cX5_setScreen 35 = .ok (.istore 7, 2) := by decide +kernel
theorem dX5_setScreen_37 : decode cX5_setScreen 37 = .ok (.iload 7, 2) := by decide +kernel
theorem dX5_setScreen_39 : decode cX5_setScreen 39 = .ok (.ifCond .eq 35, 3) := by decide +kernel
theorem dX5_setScreen_42 : decode cX5_setScreen 42 = .ok (.iload 6, 2) := by decide +kernel
theorem dX5_setScreen_44 : decode cX5_setScreen 44 = .ok (.iconst 0, 1) := by decide +kernel
theorem dX5_setScreen_45 : decode cX5_setScreen 45 = .ok (.iconst 4, 1) := by decide +kernel
theorem dX5_setScreen_46 : decode cX5_setScreen 46 = .ok (.invokestatic 71, 3) := by decide +kernel
theorem dX5_setScreen_49 : decode cX5_setScreen 49 = .ok (.ifCond .eq 25, 3) := by decide +kernel
theorem dX5_setScreen_52 : decode cX5_setScreen 52 = .ok (.iload_n 2, 1) := by decide +kernel
theorem dX5_setScreen_53 : decode cX5_setScreen 53 = .ok (.iload_n 3, 1) := by decide +kernel
theorem dX5_setScreen_54 : decode cX5_setScreen 54 = .ok (.iload 4, 2) := by decide +kernel
theorem dX5_setScreen_56 : decode cX5_setScreen 56 = .ok (.iload 5, 2) := by decide +kernel
theorem dX5_setScreen_58 : decode cX5_setScreen 58 = .ok (.invokestatic 85, 3) := by decide +kernel
theorem dX5_setScreen_61 : decode cX5_setScreen 61 = .ok (.iconst 1, 1) := by decide +kernel
theorem dX5_setScreen_62 : decode cX5_setScreen 62 = .ok (.bipush 64, 2) := by decide +kernel
theorem dX5_setScreen_64 : decode cX5_setScreen 64 = .ok (.invokestatic 71, 3) := by decide +kernel
theorem dX5_setScreen_67 : decode cX5_setScreen 67 = .ok (.ifCond .eq 7, 3) := by decide +kernel
theorem dX5_setScreen_70 : decode cX5_setScreen 70 = .ok (.iconst 1, 1) := by decide +kernel
theorem dX5_setScreen_71 : decode cX5_setScreen 71 = .ok (.goto 4, 3) := by decide +kernel
theorem dX5_setScreen_74 : decode cX5_setScreen 74 = .ok (.iconst 0, 1) := by decide +kernel
theorem dX5_setScreen_75 : decode cX5_setScreen 75 = .ok (.istore 8, 2) := by decide +kernel
theorem dX5_setScreen_77 : decode cX5_setScreen 77 = .ok (.aload_n 0, 1) := by decide +kernel
theorem dX5_setScreen_78 : decode cX5_setScreen 78 = .ok (.iload_n 1, 1) := by decide +kernel
theorem dX5_setScreen_79 : decode cX5_setScreen 79 = .ok (.invokestatic 75, 3) := by decide +kernel
theorem dX5_setScreen_82 : decode cX5_setScreen 82 = .ok (.ifCond .ne 7, 3) := by decide +kernel
theorem dX5_setScreen_85 : decode cX5_setScreen 85 = .ok (.iconst 1, 1) := by decide +kernel
theorem dX5_setScreen_86 : decode cX5_setScreen 86 = .ok (.goto 13, 3) := by decide +kernel
theorem dX5_setScreen_89 : decode cX5_setScreen 89 = .ok (.iload 8, 2) := by decide +kernel
theorem dX5_setScreen_91 : decode cX5_setScreen 91 = .ok (.ifCond .eq 7, 3) := by decide +kernel
theorem dX5_setScreen_94 : decode cX5_setScreen 94 = .ok (.iconst 0, 1) := by decide +kernel
theorem dX5_setScreen_95 : decode cX5_setScreen 95 = .ok (.goto 4, 3) := by decide +kernel
theorem dX5_setScreen_98 : decode cX5_setScreen 98 = .ok (.iconst 2, 1) := by decide +kernel
theorem dX5_setScreen_99 : decode cX5_setScreen 99 = .ok (.putfield 59, 3) := by decide +kernel
theorem dX5_setScreen_102 : decode cX5_setScreen 102 = .ok (.aload_n 0, 1) := by decide +kernel
theorem dX5_setScreen_103 : decode cX5_setScreen 103 = .ok (.getfield 59, 3) := by decide +kernel
theorem dX5_setScreen_106 : decode cX5_setScreen 106 = .ok (.ifCond .le 5, 3) := by decide +kernel
theorem dX5_setScreen_109 : decode cX5_setScreen 109 = .ok (.iconst 0, 1) := by decide +kernel
theorem dX5_setScreen_110 : decode cX5_setScreen 110 = .ok (.ireturn, 1) := by decide +kernel
theorem dX5_setScreen_111 : decode cX5_setScreen 111 = .ok (.aload_n 0, 1) := by decide +kernel
theorem dX5_setScreen_112 : decode cX5_setScreen 112 = .ok (.iload_n 1, 1) := by decide +kernel
theorem dX5_setScreen_113 : decode cX5_setScreen 113 = .ok (.iload_n 2, 1) := by decide +kernel
theorem dX5_setScreen_114 : decode cX5_setScreen 114 = .ok (.iload_n 3, 1) := by decide +kernel
theorem dX5_setScreen_115 : decode cX5_setScreen 115 = .ok (.iload 4, 2) := by decide +kernel
theorem dX5_setScreen_117 : decode cX5_setScreen 117 = .ok (.iload 5, 2) := by decide +kernel
theorem dX5_setScreen_119 : decode cX5_setScreen 119 = .ok (.iload 6, 2) := by decide +kernel
theorem dX5_setScreen_121 : decode cX5_setScreen 121 = .ok (.invokevirtual 155, 3) := by decide +kernel
theorem dX5_setScreen_124 : decode cX5_setScreen 124 = .ok (.aload_n 0, 1) := by decide +kernel
theorem dX5_setScreen_125 : decode cX5_setScreen 125 = .ok (.iload_n 1, 1) := by decide +kernel
theorem dX5_setScreen_126 : decode cX5_setScreen 126 = .ok (.invokevirtual 102, 3) := by decide +kernel
theorem dX5_setScreen_129 : decode cX5_setScreen 129 = .ok (.ireturn, 1) := by decide +kernel
theorem dX5_screens_0 : decode cX5_screens 0 = .ok (.iconst 0, 1) := by decide +kernel
theorem dX5_screens_1 : decode cX5_screens 1 = .ok (.istore_n 1, 1) := by decide +kernel
theorem dX5_screens_2 : decode cX5_screens 2 = .ok (.iconst 0, 1) := by decide +kernel
theorem dX5_screens_3 : decode cX5_screens 3 = .ok (.istore_n 2, 1) := by decide +kernel
theorem dX5_screens_4 : decode cX5_screens 4 = .ok (.iload_n 2, 1) := by decide +kernel
theorem dX5_screens_5 : decode cX5_screens 5 = .ok (.iconst 3, 1) := by decide +kernel
theorem dX5_screens_6 : decode cX5_screens 6 = .ok (.if_icmp .ge 26, 3) := by decide +kernel
theorem dX5_screens_9 : decode cX5_screens 9 = .ok (.iload_n 1, 1) := by decide +kernel
theorem dX5_screens_10 : decode cX5_screens 10 = .ok (.aload_n 0, 1) := by decide +kernel
theorem dX5_screens_11 : decode cX5_screens 11 = .ok (.getfield 7, 3) := by decide +kernel
theorem dX5_screens_14 : decode cX5_screens 14 = .ok (.iload_n 2, 1) := by decide +kernel
theorem dX5_screens_15 : decode cX5_screens 15 = .ok (.baload, 1) := by decide +kernel
theorem dX5_screens_16 : decode cX5_screens 16 = .ok (.ifCond .eq 7, 3) := by decide +kernel
theorem dX5_screens_19 : decode cX5_screens 19 = .ok (.iconst 1, 1) := by decide +kernel
theorem dX5_screens_20 : decode cX5_screens 20 = .ok (.goto 4, 3) := by decide +kernel
theorem dX5_screens_23 : decode cX5_screens 23 = .ok (.iconst 0, 1) := by decide +kernel
theorem dX5_screens_24 : decode cX5_screens 24 = .ok (.iadd, 1) := by decide +kernel
theorem dX5_screens_25 : decode cX5_screens 25 = .ok (.istore_n 1, 1) := by decide +kernel
theorem dX5_screens_26 : decode cX5_screens 26 = .ok (.iinc 2 1, 3) := by decide +kernel
theorem dX5_screens_29 : decode cX5_screens 29 = .ok (.goto (-25), 3) := by decide +kernel
theorem dX5_screens_32 : decode cX5_screens 32 = .ok (.iload_n 1, 1) := by decide +kernel
theorem dX5_screens_33 : decode cX5_screens 33 = .ok (.ireturn, 1) := by decide +kernel
set_option maxRecDepth 20000 in
theorem ggX5_remove_X5_missing : GoodIn wsX5_remove wsX5_missing := goodIn_r _ [7, 2, 8, 9, 6, 10, 11, 12, 13, 18, 19, 20, 21, 22, 23, 24, 25, 26, 27, 28, 29, 30, 31, 32, 33, 34, 35, 36, 37, 38, 39, 40, 41, 42, 43, 44, 45, 46, 47, 48, 49, 50, 51, 52] (by decide +kernel) (by decide +kernel)
set_option maxRecDepth 20000 in
theorem gX5_remove_X5_missing : GoodIn wsX5_remove (wsV RX5 162 RX5 yX5_missing wsX5_missing) := goodIn_app (goodIn_of _ (by decide +kernel)) ggX5_remove_X5_missing
set_option maxRecDepth 20000 in
theorem ggX5_remove_X5_screens : GoodIn wsX5_remove wsX5_screens := goodIn_r _ [17, 2, 18, 19, 20, 21, 22, 23, 24, 25, 26, 27, 28, 29, 30, 31, 32, 33, 34, 35, 36, 37, 38, 39, 40, 41, 42, 43, 44, 45, 46, 47, 48, 49, 50, 51, 52] (by decide +kernel) (by decide +kernel)
set_option maxRecDepth 20000 in
theorem gX5_remove_X5_screens : GoodIn wsX5_remove (wsV RX5 165 RX5 yX5_screens wsX5_screens) := goodIn_app (goodIn_of _ (by decide +kernel)) ggX5_remove_X5_screens
theorem dX5_remove_0 : decode cX5_remove 0 = .ok (.aload_n 0, 1) := by decide +kernel
theorem dX5_remove_1 : decode cX5_remove 1 = .ok (.aload_n 0, 1) := by decide +kernel
theorem dX5_remove_2 : decode cX5_remove 2 = .ok (.iload_n 1, 1) := by decide +kernel
theorem dX5_remove_3 : decode cX5_remove 3 = .ok (.invokevirtual 162, 3) := by decide +kernel
theorem dX5_remove_6 : decode cX5_remove 6 = .ok (.putfield 59, 3) := by decide +kernel
theorem dX5_remove_9 : decode cX5_remove 9 = .ok (.aload_n 0, 1) := by decide +kernel
theorem dX5_remove_10 : decode cX5_remove 10 = .ok (.getfield 59, 3) := by decide +kernel
theorem dX5_remove_13 : decode cX5_remove 13 = .ok (.ifCond .le 5, 3) := by decide +kernel
theorem dX5_remove_16 : decode cX5_remove 16 = .ok (.iconst 0, 1) := by decide +kernel
theorem dX5_remove_17 : decode cX5_remove 17 = .ok (.ireturn, 1) := by decide +kernel
theorem dX5_remove_18 : decode cX5_remove 18 = .ok (.aload_n 0, 1) := by decide +kernel
theorem dX5_remove_19 : decode cX5_remove 19 = .ok (.getfield 7, 3) := by decide +kernel
theorem dX5_remove_22 : decode cX5_remove 22 = .ok (.iload_n 1, 1) := by decide +kernel
theorem dX5_remove_23 : decode cX5_remove 23 = .ok (.iconst 0, 1) := by decide +kernel
theorem dX5_remove_24 : decode cX5_remove 24 = .ok (.bastore, 1) := by decide +kernel
theorem dX5_remove_25 : decode cX5_remove 25 = .ok (.aload_n 0, 1) := by decide +kernel
theorem dX5_remove_26 : decode cX5_remove 26 = .ok (.invokevirtual 165, 3) := by decide +kernel
theorem dX5_remove_29 : decode cX5_remove 29 = .ok (.ireturn, 1) := by decide +kernel
set_option maxRecDepth 20000 in
theorem ggX5_setCenter_X5_missing : GoodIn wsX5_setCenter wsX5_missing := goodIn_r _ [7, 8, 9, 10, 6, 11, 12, 13, 14, 71, 72, 73, 74, 75, 76, 77, 78, 79, 80, 81, 82, 83, 84, 85, 86, 87, 88, 89, 90, 91, 92, 93, 94, 95, 96, 97, 98, 99, 100, 101, 102, 103, 104, 105] (by decide +kernel) (by decide +kernel)
set_option maxRecDepth 20000 in
theorem gX5_setCenter_X5_missing : GoodIn wsX5_setCenter (wsV RX5 162 RX5 yX5_missing wsX5_missing) := goodIn_app (goodIn_of _ (by decide +kernel)) ggX5_setCenter_X5_missing
set_option maxRecDepth 20000 in
theorem ggX5_setCenter_X5_keepRanks : GoodIn wsX5_setCenter wsX5_keepRanks := goodIn_r _ [18, 19, 20, 21, 22, 23, 24, 6, 25, 26, 27, 28, 29, 30, 31, 32, 33, 34, 35, 36, 37, 38, 39, 40, 41, 42, 43, 44, 45, 46, 47, 48, 49, 50, 51, 52, 53, 54, 55, 56, 57, 58, 2, 59, 60, 61, 62, 63, 64, 65, 66, 71, 72, 73, 74, 75, 76, 77, 78, 79, 80, 81, 82, 83, 84, 85, 86, 87, 88, 89, 90, 91, 92, 93, 94, 95, 96, 97, 98, 99, 100, 101, 102, 103, 104, 105] (by decide +kernel) (by decide +kernel)
set_option maxRecDepth 20000 in
theorem gX5_setCenter_X5_keepRanks : GoodIn wsX5_setCenter (wsV RX5 168 RX5 yX5_keepRanks wsX5_keepRanks) := goodIn_app (goodIn_of _ (by decide +kernel)) ggX5_setCenter_X5_keepRanks
set_option maxRecDepth 20000 in
theorem ggX5_setCenter_X5_otherRanks : GoodIn wsX5_setCenter wsX5_otherRanks := goodIn_r _ [70, 19, 21, 20, 22, 23, 24, 6, 25, 26, 27, 28, 29, 30, 31, 32, 33, 34, 35, 36, 37, 38, 39, 40, 41, 42, 43, 44, 45, 46, 47, 48, 49, 50, 51, 52, 53, 54, 55, 56, 57, 58, 2, 59, 60, 61, 62, 63, 64, 65, 66, 71, 72, 73, 74, 75, 76, 77, 78, 79, 80, 81, 82, 83, 84, 85, 86, 87, 88, 89, 90, 91, 92, 93, 94, 95, 96, 97, 98, 99, 100, 101, 102, 103, 104, 105] (by decide +kernel) (by decide +kernel)
set_option maxRecDepth 20000 in
theorem gX5_setCenter_X5_otherRanks : GoodIn wsX5_setCenter (wsV RX5 171 RX5 yX5_otherRanks wsX5_otherRanks) := goodIn_app (goodIn_of _ (by decide +kernel)) ggX5_setCenter_X5_otherRanks
theorem dX5_setCenter_0 : decode cX5_setCenter 0 = .ok (.aload_n 0, 1) := by decide +kernel
theorem dX5_setCenter_1 : decode cX5_setCenter 1 = .ok (.aload_n 0, 1) := by decide +kernel
theorem dX5_setCenter_2 : decode cX5_setCenter 2 = .ok (.iload_n 1, 1) := by decide +kernel
theorem dX5_setCenter_3 : decode cX5_setCenter 3 = .ok (.invokevirtual 162, 3) := by decide +kernel
theorem dX5_setCenter_6 : decode cX5_setCenter 6 = .ok (.putfield 59, 3) := by decide +kernel
theorem dX5_setCenter_9 : decode cX5_setCenter 9 = .ok (.aload_n 0, 1) := by decide +kernel
theorem dX5_setCenter_10 : decode cX5_setCenter 10 = .ok (.getfield 59, 3) := by decide +kernel
theorem dX5_setCenter_13 : decode cX5_setCenter 13 = .ok (.ifCond .le 5, 3) := by decide +kernel
theorem dX5_setCenter_16 : decode cX5_setCenter 16 = .ok (.iconst 0, 1) := by decide +kernel
theorem dX5_setCenter_17 : decode cX5_setCenter 17 = .ok (.ireturn, 1) := by decide +kernel
theorem dX5_setCenter_18 : decode cX5_setCenter 18 = .ok (.aload_n 0, 1) := by decide +kernel
theorem dX5_setCenter_19 : decode cX5_setCenter 19 = .ok (.iload_n 1, 1) := by decide +kernel
theorem dX5_setCenter_20 : decode cX5_setCenter 20 = .ok (.invokevirtual 168, 3) := by decide +kernel
theorem dX5_setCenter_23 : decode cX5_setCenter 23 = .ok (.aload_n 0, 1) := by decide +kernel
theorem dX5_setCenter_24 : decode cX5_setCenter 24 = .ok (.getfield 20, 3) := by decide +kernel
theorem dX5_setCenter_27 : decode cX5_setCenter 27 = .ok (.iload_n 1, 1) := by decide +kernel
theorem dX5_setCenter_28 : decode cX5_setCenter 28 = .ok (.iload_n 2, 1) := by decide +kernel
theorem dX5_setCenter_29 : decode cX5_setCenter 29 = .ok (.bastore, 1) := by decide +kernel
theorem dX5_setCenter_30 : decode cX5_setCenter 30 = .ok (.aload_n 0, 1) := by decide +kernel
theorem dX5_setCenter_31 : decode cX5_setCenter 31 = .ok (.iload_n 1, 1) := by decide +kernel
theorem dX5_setCenter_32 : decode cX5_setCenter 32 = .ok (.invokevirtual 171, 3) := by decide +kernel
theorem dX5_setCenter_35 : decode cX5_setCenter 35 = .ok (.ireturn, 1) := by decide +kernel
theorem dX5_turnVector_0 : decode cX5_turnVector 0 = .ok (.aload_n 0, 1) := by decide +kernel
theorem dX5_turnVector_1 : decode cX5_turnVector 1 = .ok (.getfield 13, 3) := by decide +kernel
theorem dX5_turnVector_4 : decode cX5_turnVector 4 = .ok (.iload_n 1, 1) := by decide +kernel
theorem dX5_turnVector_5 : decode cX5_turnVector 5 = .ok (.iaload, 1) := by decide +kernel
theorem dX5_turnVector_6 : decode cX5_turnVector 6 = .ok (.istore_n 3, 1) := by decide +kernel
theorem dX5_turnVector_7 : decode cX5_turnVector 7 = .ok (.aload_n 0, 1) := by decide +kernel
theorem dX5_turnVector_8 : decode cX5_turnVector 8 = .ok (.getfield 13, 3) := by decide +kernel
theorem dX5_turnVector_11 : decode cX5_turnVector 11 = .ok (.iload_n 1, 1) := by decide +kernel
theorem dX5_turnVector_12 : decode cX5_turnVector 12 = .ok (.iconst 1, 1) := by decide +kernel
theorem dX5_turnVector_13 : decode cX5_turnVector 13 = .ok (.iadd, 1) := by decide +kernel
theorem dX5_turnVector_14 : decode cX5_turnVector 14 = .ok (.iaload, 1) := by decide +kernel
theorem dX5_turnVector_15 : decode cX5_turnVector 15 = .ok (.istore 4, 2) := by decide +kernel
theorem dX5_turnVector_17 : decode cX5_turnVector 17 = .ok (.aload_n 0, 1) := by decide +kernel
theorem dX5_turnVector_18 : decode cX5_turnVector 18 = .ok (.getfield 13, 3) := by decide +kernel
theorem dX5_turnVector_21 : decode cX5_turnVector 21 = .ok (.iload_n 1, 1) := by decide +kernel
theorem dX5_turnVector_22 : decode cX5_turnVector 22 = .ok (.iload_n 2, 1) := by decide +kernel
theorem dX5_turnVector_23 : decode cX5_turnVector 23 = .ok (.iconst 1, 1) := by decide +kernel
theorem dX5_turnVector_24 : decode cX5_turnVector 24 = .ok (.if_icmp .ne 8, 3) := by decide +kernel
theorem dX5_turnVector_27 : decode cX5_turnVector 27 = .ok (.iload_n 3, 1) := by decide +kernel
theorem dX5_turnVector_28 : decode cX5_turnVector 28 = .ok (.ineg, 1) := by decide +kernel
theorem dX5_turnVector_29 : decode cX5_turnVector 29 = .ok (.goto 15, 3) := by decide +kernel
theorem dX5_turnVector_32 : decode cX5_turnVector 32 = .ok (.iload_n 2, 1) := by decide +kernel
theorem dX5_turnVector_33 : decode cX5_turnVector 33 = .ok (.ifCond .ne 9, 3) := by decide +kernel
theorem dX5_turnVector_36 : decode cX5_turnVector 36 = .ok (.iload 4, 2) := by decide +kernel
theorem dX5_turnVector_38 : decode cX5_turnVector 38 = .ok (.ineg, 1) := by decide +kernel
theorem dX5_turnVector_39 : decode cX5_turnVector 39 = .ok (.goto 5, 3) := by decide +kernel
theorem dX5_turnVector_42 : decode cX5_turnVector 42 = .ok (.iload 4, 2) := by decide +kernel
theorem dX5_turnVector_44 : decode cX5_turnVector 44 = .ok (.iastore, 1) := by decide +kernel
theorem dX5_turnVector_45 : decode cX5_turnVector 45 = .ok (.aload_n 0, 1) := by decide +kernel
theorem dX5_turnVector_46 : decode cX5_turnVector 46 = .ok (.getfield 13, 3) := by decide +kernel
theorem dX5_turnVector_49 : decode cX5_turnVector 49 = .ok (.iload_n 1, 1) := by decide +kernel
theorem dX5_turnVector_50 : decode cX5_turnVector 50 = .ok (.iconst 1, 1) := by decide +kernel
theorem dX5_turnVector_51 : decode cX5_turnVector 51 = .ok (.iadd, 1) := by decide +kernel
theorem dX5_turnVector_52 : decode cX5_turnVector 52 = .ok (.iload_n 2, 1) := by decide +kernel
theorem dX5_turnVector_53 : decode cX5_turnVector 53 = .ok (.iconst 1, 1) := by decide +kernel
theorem dX5_turnVector_54 : decode cX5_turnVector 54 = .ok (.if_icmp .ne 8, 3) := by decide +kernel
theorem dX5_turnVector_57 : decode cX5_turnVector 57 = .ok (.iload 4, 2) := by decide +kernel
theorem dX5_turnVector_59 : decode cX5_turnVector 59 = .ok (.goto 4, 3) := by decide +kernel
theorem dX5_turnVector_62 : decode cX5_turnVector 62 = .ok (.iload_n 3, 1) := by decide +kernel
theorem dX5_turnVector_63 : decode cX5_turnVector 63 = .ok (.iastore, 1) := by decide +kernel
theorem dX5_turnVector_64 : decode cX5_turnVector 64 = .ok (.return_, 1) := by decide +kernel
set_option maxRecDepth 20000 in
theorem ggX5_wrong_X5_isSlot : GoodIn wsX5_wrong wsX5_isSlot := goodIn_r _ [5, 6, 7, 4, 8] (by decide +kernel) (by decide +kernel)
set_option maxRecDepth 20000 in
theorem gX5_wrong_X5_isSlot : GoodIn wsX5_wrong (va_wsS RX5 75 yX5_isSlot wsX5_isSlot) := goodIn_app (goodIn_of _ (by decide +kernel)) ggX5_wrong_X5_isSlot
theorem dX5_wrong_0 : decode cX5_wrong 0 = .ok (.iload_n 1, 1) := by decide +kernel
theorem dX5_wrong_1 : decode cX5_wrong 1 = .ok (.invokestatic 75, 3) := by decide +kernel
theorem dX5_wrong_4 : decode cX5_wrong 4 = .ok (.ifCond .ne 7, 3) := by decide +kernel
theorem dX5_wrong_7 : decode cX5_wrong 7 = .ok (.iconst 1, 1) := by decide +kernel
theorem dX5_wrong_8 : decode cX5_wrong 8 = .ok (.goto 25, 3) := by decide +kernel
theorem dX5_wrong_11 : decode cX5_wrong 11 = .ok (.iload_n 2, 1) := by decide +kernel
theorem dX5_wrong_12 : decode cX5_wrong 12 = .ok (.ifCond .ne 7, 3) := by decide +kernel
theorem dX5_wrong_15 : decode cX5_wrong 15 = .ok (.iconst 2, 1) := by decide +kernel
theorem dX5_wrong_16 : decode cX5_wrong 16 = .ok (.goto 17, 3) := by decide +kernel
theorem dX5_wrong_19 : decode cX5_wrong 19 = .ok (.aload_n 0, 1) := by decide +kernel
theorem dX5_wrong_20 : decode cX5_wrong 20 = .ok (.getfield 7, 3) := by decide +kernel
theorem dX5_wrong_23 : decode cX5_wrong 23 = .ok (.iload_n 1, 1) := by decide +kernel
theorem dX5_wrong_24 : decode cX5_wrong 24 = .ok (.baload, 1) := by decide +kernel
theorem dX5_wrong_25 : decode cX5_wrong 25 = .ok (.ifCond .eq 7, 3) := by decide +kernel
theorem dX5_wrong_28 : decode cX5_wrong 28 = .ok (.iconst 0, 1) := by decide +kernel
theorem dX5_wrong_29 : decode cX5_wrong 29 = .ok (.goto 4, 3) := by decide +kernel
theorem dX5_wrong_32 : decode cX5_wrong 32 = .ok (.iconst 3, 1) := by decide +kernel
theorem dX5_wrong_33 : decode cX5_wrong 33 = .ok (.ireturn, 1) := by decide +kernel
set_option maxRecDepth 20000 in
theorem ggX5_turn_X5_within : GoodIn wsX5_turn wsX5_within := goodIn_r _ [5] (by decide +kernel) (by decide +kernel)
set_option maxRecDepth 20000 in
theorem gX5_turn_X5_within : GoodIn wsX5_turn (va_wsS RX5 71 yX5_within wsX5_within) := goodIn_app (goodIn_of _ (by decide +kernel)) ggX5_turn_X5_within
set_option maxRecDepth 20000 in
theorem ggX5_turn_X5_wrong : GoodIn wsX5_turn wsX5_wrong := goodIn_r _ [9, 10, 11, 12, 4, 13, 2, 3, 5, 75, 76, 77, 78, 79, 80, 81, 82, 83, 84, 85, 86, 87, 88, 89, 90, 91, 92, 93, 94, 95, 96, 97, 98, 99, 100, 101, 102, 103, 104, 105, 106, 107, 108, 109] (by decide +kernel) (by decide +kernel)
set_option maxRecDepth 20000 in
theorem gX5_turn_X5_wrong : GoodIn wsX5_turn (wsV RX5 174 RX5 yX5_wrong wsX5_wrong) := goodIn_app (goodIn_of _ (by decide +kernel)) ggX5_turn_X5_wrong
set_option maxRecDepth 20000 in
theorem ggX5_turn_X5_keepRanks : GoodIn wsX5_turn wsX5_keepRanks := goodIn_r _ [17, 18, 19, 20, 21, 22, 23, 4, 24, 25, 26, 27, 28, 29, 30, 31, 32, 33, 34, 35, 36, 37, 38, 39, 40, 41, 42, 43, 44, 45, 46, 47, 48, 49, 50, 51, 52, 53, 54, 55, 56, 57, 58, 59, 60, 61, 62, 63, 64, 65, 66, 75, 76, 77, 78, 79, 80, 81, 82, 83, 84, 85, 86, 87, 88, 89, 90, 91, 92, 93, 94, 95, 96, 97, 98, 99, 100, 101, 102, 103, 104, 105, 106, 107, 108, 109] (by decide +kernel) (by decide +kernel)
set_option maxRecDepth 20000 in
theorem gX5_turn_X5_keepRanks : GoodIn wsX5_turn (wsV RX5 168 RX5 yX5_keepRanks wsX5_keepRanks) := goodIn_app (goodIn_of _ (by decide +kernel)) ggX5_turn_X5_keepRanks
set_option maxRecDepth 20000 in
theorem ggX5_turn_X5_turnVector : GoodIn wsX5_turn wsX5_turnVector := goodIn_r _ [70, 31, 75, 76, 77, 78, 79, 80, 81, 82, 83, 84, 85, 86, 87, 88, 89, 90, 91, 92, 93, 94, 95, 96, 97, 98, 99, 100, 101, 102, 103, 104, 105, 106, 107, 108, 109] (by decide +kernel) (by decide +kernel)
set_option maxRecDepth 20000 in
theorem gX5_turn_X5_turnVector : GoodIn wsX5_turn (wsV RX5 178 RX5 yX5_turnVector wsX5_turnVector) := goodIn_app (goodIn_of _ (by decide +kernel)) ggX5_turn_X5_turnVector
set_option maxRecDepth 20000 in
theorem ggX5_turn_X5_otherRanks : GoodIn wsX5_turn wsX5_otherRanks := goodIn_r _ [74, 18, 20, 19, 21, 22, 23, 4, 24, 25, 26, 27, 28, 29, 30, 31, 32, 33, 34, 35, 36, 37, 38, 39, 40, 41, 42, 43, 44, 45, 46, 47, 48, 49, 50, 51, 52, 53, 54, 55, 56, 57, 58, 59, 60, 61, 62, 63, 64, 65, 66, 75, 76, 77, 78, 79, 80, 81, 82, 83, 84, 85, 86, 87, 88, 89, 90, 91, 92, 93, 94, 95, 96, 97, 98, 99, 100, 101, 102, 103, 104, 105, 106, 107, 108, 109] (by decide +kernel) (by decide +kernel)
set_option maxRecDepth 20000 in
theorem gX5_turn_X5_otherRanks : GoodIn wsX5_turn (wsV RX5 171 RX5 yX5_otherRanks wsX5_otherRanks) := goodIn_app (goodIn_of _ (by decide +kernel)) ggX5_turn_X5_otherRanks
theorem dX5_turn_0 : decode cX5_turn 0 = .ok (.aload_n 0, 1) := by decide +kernel
theorem dX5_turn_1 : decode cX5_turn 1 = .ok (.aload_n 0, 1) := by decide +kernel
theorem dX5_turn_2 : decode cX5_turn 2 = .ok (.iload_n 1, 1) := by decide +kernel
theorem dX5_turn_3 : decode cX5_turn 3 = .ok (.iload_n 2, 1) := by decide +kernel
theorem dX5_turn_4 : decode cX5_turn 4 = .ok (.iconst 0, 1) := by decide +kernel
theorem dX5_turn_5 : decode cX5_turn 5 = .ok (.iconst 2, 1) := by decide +kernel
theorem dX5_turn_6 : decode cX5_turn 6 = .ok (.invokestatic 71, 3) := by decide +kernel
theorem dX5_turn_9 : decode cX5_turn 9 = .ok (.invokevirtual 174, 3) := by decide +kernel
theorem dX5_turn_12 : decode cX5_turn 12 = .ok (.putfield 59, 3) := by decide +kernel
theorem dX5_turn_15 : decode cX5_turn 15 = .ok (.aload_n 0, 1) := by decide +kernel
theorem dX5_turn_16 : decode cX5_turn 16 = .ok (.getfield 59, 3) := by decide +kernel
theorem dX5_turn_19 : decode cX5_turn 19 = .ok (.ifCond .le 5, 3) := by decide +kernel
theorem dX5_turn_22 : decode cX5_turn 22 = .ok (.iconst 0, 1) := by decide +kernel
theorem dX5_turn_23 : decode cX5_turn 23 = .ok (.ireturn, 1) := by decide +kernel
theorem dX5_turn_24 : decode cX5_turn 24 = .ok (.aload_n 0, 1) := by decide +kernel
theorem dX5_turn_25 : decode cX5_turn 25 = .ok (.iload_n 1, 1) := by decide +kernel
theorem dX5_turn_26 : decode cX5_turn 26 = .ok (.invokevirtual 168, 3) := by decide +kernel
theorem dX5_turn_29 : decode cX5_turn 29 = .ok (.aload_n 0, 1) := by decide +kernel
theorem dX5_turn_30 : decode cX5_turn 30 = .ok (.iconst 4, 1) := by decide +kernel
theorem dX5_turn_31 : decode cX5_turn 31 = .ok (.iload_n 1, 1) := by decide +kernel
theorem dX5_turn_32 : decode cX5_turn 32 = .ok (.imul, 1) := by decide +kernel
theorem dX5_turn_33 : decode cX5_turn 33 = .ok (.iload_n 2, 1) := by decide +kernel
theorem dX5_turn_34 : decode cX5_turn 34 = .ok (.invokevirtual 178, 3) := by decide +kernel
theorem dX5_turn_37 : decode cX5_turn 37 = .ok (.aload_n 0, 1) := by decide +kernel
theorem dX5_turn_38 : decode cX5_turn 38 = .ok (.iconst 4, 1) := by decide +kernel
theorem dX5_turn_39 : decode cX5_turn 39 = .ok (.iload_n 1, 1) := by decide +kernel
theorem dX5_turn_40 : decode cX5_turn 40 = .ok (.imul, 1) := by decide +kernel
theorem dX5_turn_41 : decode cX5_turn 41 = .ok (.iconst 2, 1) := by decide +kernel
theorem dX5_turn_42 : decode cX5_turn 42 = .ok (.iadd, 1) := by decide +kernel
theorem dX5_turn_43 : decode cX5_turn 43 = .ok (.iload_n 2, 1) := by decide +kernel
theorem dX5_turn_44 : decode cX5_turn 44 = .ok (.invokevirtual 178, 3) := by decide +kernel
theorem dX5_turn_47 : decode cX5_turn 47 = .ok (.aload_n 0, 1) := by decide +kernel
theorem dX5_turn_48 : decode cX5_turn 48 = .ok (.iload_n 1, 1) := by decide +kernel
theorem dX5_turn_49 : decode cX5_turn 49 = .ok (.invokevirtual 171, 3) := by decide +kernel
theorem dX5_turn_52 : decode cX5_turn 52 = .ok (.ireturn, 1) := by decide +kernel
theorem dX5_product_0 : decode cX5_product 0 = .ok (.aload_n 0, 1) := by decide +kernel
theorem dX5_product_1 : decode cX5_product 1 = .ok (.getfield 13, 3) := by decide +kernel
theorem dX5_product_4 : decode cX5_product 4 = .ok (.iload_n 1, 1) := by decide +kernel
theorem dX5_product_5 : decode cX5_product 5 = .ok (.iaload, 1) := by decide +kernel
theorem dX5_product_6 : decode cX5_product 6 = .ok (.aload_n 0, 1) := by decide +kernel
theorem dX5_product_7 : decode cX5_product 7 = .ok (.getfield 13, 3) := by decide +kernel
theorem dX5_product_10 : decode cX5_product 10 = .ok (.iload_n 2, 1) := by decide +kernel
theorem dX5_product_11 : decode cX5_product 11 = .ok (.iaload, 1) := by decide +kernel
theorem dX5_product_12 : decode cX5_product 12 = .ok (.imul, 1) := by decide +kernel
theorem dX5_product_13 : decode cX5_product 13 = .ok (.aload_n 0, 1) := by decide +kernel
theorem dX5_product_14 : decode cX5_product 14 = .ok (.getfield 13, 3) := by decide +kernel
theorem dX5_product_17 : decode cX5_product 17 = .ok (.iload_n 1, 1) := by decide +kernel
theorem dX5_product_18 : decode cX5_product 18 = .ok (.iconst 1, 1) := by decide +kernel
theorem dX5_product_19 : decode cX5_product 19 = .ok (.iadd, 1) := by decide +kernel
theorem dX5_product_20 : decode cX5_product 20 = .ok (.iaload, 1) := by decide +kernel
theorem dX5_product_21 : decode cX5_product 21 = .ok (.aload_n 0, 1) := by decide +kernel
theorem dX5_product_22 : decode cX5_product 22 = .ok (.getfield 13, 3) := by decide +kernel
theorem dX5_product_25 : decode cX5_product 25 = .ok (.iload_n 2, 1) := by decide +kernel
theorem dX5_product_26 : decode cX5_product 26 = .ok (.iconst 1, 1) := by decide +kernel
theorem dX5_product_27 : decode cX5_product 27 = .ok (.iadd, 1) := by decide +kernel
theorem dX5_product_28 : decode cX5_product 28 = .ok (.iaload, 1) := by decide +kernel
theorem dX5_product_29 : decode cX5_product 29 = .ok (.imul, 1) := by decide +kernel
theorem dX5_product_30 : decode cX5_product 30 = .ok (.iadd, 1) := by decide +kernel
theorem dX5_product_31 : decode cX5_product 31 = .ok (.ireturn, 1) := by decide +kernel
theorem dX5_exchange_0 : decode cX5_exchange 0 = .ok (.iconst 0, 1) := by decide +kernel
theorem dX5_exchange_1 : decode cX5_exchange 1 = .ok (.istore_n 2, 1) := by decide +kernel
theorem dX5_exchange_2 : decode cX5_exchange 2 = .ok (.iload_n 2, 1) := by decide +kernel
theorem dX5_exchange_3 : decode cX5_exchange 3 = .ok (.iconst 2, 1) := by decide +kernel
theorem dX5_exchange_4 : decode cX5_exchange 4 = .ok (.if_icmp .ge 47, 3) := by decide +kernel
theorem dX5_exchange_7 : decode cX5_exchange 7 = .ok (.aload_n 0, 1) := by decide +kernel
theorem dX5_exchange_8 : decode cX5_exchange 8 = .ok (.getfield 13, 3) := by decide +kernel
theorem dX5_exchange_11 : decode cX5_exchange 11 = .ok (.iload_n 1, 1) := by decide +kernel
theorem dX5_exchange_12 : decode cX5_exchange 12 = .ok (.iload_n 2, 1) := by decide +kernel
theorem dX5_exchange_13 : decode cX5_exchange 13 = .ok (.iadd, 1) := by decide +kernel
theorem dX5_exchange_14 : decode cX5_exchange 14 = .ok (.iaload, 1) := by decide +kernel
theorem dX5_exchange_15 : decode cX5_exchange 15 = .ok (.istore_n 3, 1) := by decide +kernel
theorem dX5_exchange_16 : decode cX5_exchange 16 = .ok (.aload_n 0, 1) := by decide +kernel
theorem dX5_exchange_17 : decode cX5_exchange 17 = .ok (.getfield 13, 3) := by decide +kernel
theorem dX5_exchange_20 : decode cX5_exchange 20 = .ok (.iload_n 1, 1) := by decide +kernel
theorem dX5_exchange_21 : decode cX5_exchange 21 = .ok (.iload_n 2, 1) := by decide +kernel
theorem dX5_exchange_22 : decode cX5_exchange 22 = .ok (.iadd, 1) := by decide +kernel
theorem dX5_exchange_23 : decode cX5_exchange 23 = .ok (.aload_n 0, 1) := by decide +kernel
theorem dX5_exchange_24 : decode cX5_exchange 24 = .ok (.getfield 13, 3) := by decide +kernel
theorem dX5_exchange_27 : decode cX5_exchange 27 = .ok (.iload_n 1, 1) := by decide +kernel
theorem dX5_exchange_28 : decode cX5_exchange 28 = .ok (.iconst 2, 1) := by decide +kernel
theorem dX5_exchange_29 : decode cX5_exchange 29 = .ok (.iadd, 1) := by decide +kernel
theorem dX5_exchange_30 : decode cX5_exchange 30 = .ok (.iload_n 2, 1) := by decide +kernel
theorem dX5_exchange_31 : decode cX5_exchange 31 = .ok (.iadd, 1) := by decide +kernel
theorem dX5_exchange_32 : decode cX5_exchange 32 = .ok (.iaload, 1) := by decide +kernel
theorem dX5_exchange_33 : decode cX5_exchange 33 = .ok (.iastore, 1) := by decide +kernel
theorem dX5_exchange_34 : decode cX5_exchange 34 = .ok (.aload_n 0, 1) := by decide +kernel
theorem dX5_exchange_35 : decode cX5_exchange 35 = .ok (.getfield 13, 3) := by decide +kernel
theorem dX5_exchange_38 : decode cX5_exchange 38 = .ok (.iload_n 1, 1) := by decide +kernel
theorem dX5_exchange_39 : decode cX5_exchange 39 = .ok (.iconst 2, 1) := by decide +kernel
theorem dX5_exchange_40 : decode cX5_exchange 40 = .ok (.iadd, 1) := by decide +kernel
theorem dX5_exchange_41 : decode cX5_exchange 41 = .ok (.iload_n 2, 1) := by decide +kernel
theorem dX5_exchange_42 : decode cX5_exchange 42 = .ok (.iadd, 1) := by decide +kernel
theorem dX5_exchange_43 : decode cX5_exchange 43 = .ok (.iload_n 3, 1) := by decide +kernel
theorem dX5_exchange_44 : decode cX5_exchange 44 = .ok (.iastore, 1) := by decide +kernel
theorem dX5_exchange_45 : decode cX5_exchange 45 = .ok (.iinc 2 1, 3) := by decide +kernel
theorem dX5_exchange_48 : decode cX5_exchange 48 = .ok (.goto (-46), 3) := by decide +kernel
theorem dX5_exchange_51 : decode cX5_exchange 51 = .ok (.return_, 1) := by decide +kernel
set_option maxRecDepth 20000 in
theorem ggX5_rounded_X5_abs : GoodIn wsX5_rounded wsX5_abs := goodIn_r _ [4] (by decide +kernel) (by decide +kernel)
set_option maxRecDepth 20000 in
theorem gX5_rounded_X5_abs : GoodIn wsX5_rounded (va_wsS RX5 63 yX5_abs wsX5_abs) := goodIn_app (goodIn_of _ (by decide +kernel)) ggX5_rounded_X5_abs
theorem dX5_rounded_0 : decode cX5_rounded 0 = .ok (.iload_n 0, 1) := by decide +kernel
theorem dX5_rounded_1 : decode cX5_rounded 1 = .ok (.invokestatic 63, 3) := by decide +kernel
theorem dX5_rounded_4 : decode cX5_rounded 4 = .ok (.iload_n 1, 1) := by decide +kernel
theorem dX5_rounded_5 : decode cX5_rounded 5 = .ok (.idiv, 1) := by decide +kernel
theorem dX5_rounded_6 : decode cX5_rounded 6 = .ok (.istore_n 2, 1) := by decide +kernel
theorem dX5_rounded_7 : decode cX5_rounded 7 = .ok (.iconst 2, 1) := by decide +kernel
theorem dX5_rounded_8 : decode cX5_rounded 8 = .ok (.iload_n 0, 1) := by decide +kernel
theorem dX5_rounded_9 : decode cX5_rounded 9 = .ok (.invokestatic 63, 3) := by decide +kernel
theorem dX5_rounded_12 : decode cX5_rounded 12 = .ok (.iload_n 2, 1) := by decide +kernel
theorem dX5_rounded_13 : decode cX5_rounded 13 = .ok (.iload_n 1, 1) := by decide +kernel
theorem dX5_rounded_14 : decode cX5_rounded 14 = .ok (.imul, 1) := by decide +kernel
theorem dX5_rounded_15 : decode cX5_rounded 15 = .ok (.isub, 1) := by decide +kernel
theorem dX5_rounded_16 : decode cX5_rounded 16 = .ok (.imul, 1) := by decide +kernel
theorem dX5_rounded_17 : decode cX5_rounded 17 = .ok (.iload_n 1, 1) := by decide +kernel
theorem dX5_rounded_18 : decode cX5_rounded 18 = .ok (.if_icmp .le 9, 3) := by decide +kernel
theorem dX5_rounded_21 : decode cX5_rounded 21 = .ok (.iload_n 2, 1) := by decide +kernel
theorem dX5_rounded_22 : decode cX5_rounded 22 = .ok (.iconst 1, 1) := by decide +kernel
theorem dX5_rounded_23 : decode cX5_rounded 23 = .ok (.iadd, 1) := by decide +kernel
theorem dX5_rounded_24 : decode cX5_rounded 24 = .ok (.goto 4, 3) := by decide +kernel
theorem dX5_rounded_27 : decode cX5_rounded 27 = .ok (.iload_n 2, 1) := by decide +kernel
theorem dX5_rounded_28 : decode cX5_rounded 28 = .ok (.istore_n 3, 1) := by decide +kernel
theorem dX5_rounded_29 : decode cX5_rounded 29 = .ok (.iload_n 0, 1) := by decide +kernel
theorem dX5_rounded_30 : decode cX5_rounded 30 = .ok (.ifCond .ge 8, 3) := by decide +kernel
theorem dX5_rounded_33 : decode cX5_rounded 33 = .ok (.iload_n 3, 1) := by decide +kernel
theorem dX5_rounded_34 : decode cX5_rounded 34 = .ok (.ineg, 1) := by decide +kernel
theorem dX5_rounded_35 : decode cX5_rounded 35 = .ok (.goto 4, 3) := by decide +kernel
theorem dX5_rounded_38 : decode cX5_rounded 38 = .ok (.iload_n 3, 1) := by decide +kernel
theorem dX5_rounded_39 : decode cX5_rounded 39 = .ok (.ireturn, 1) := by decide +kernel
set_option maxRecDepth 20000 in
theorem ggX5_shorten_X5_missing : GoodIn wsX5_shorten wsX5_missing := goodIn_r _ [7, 8, 9, 10, 6, 11, 12, 13, 14, 29, 30, 31, 32, 33, 34, 35, 36, 37, 38, 39, 40, 41, 42, 43, 44, 45, 46, 47, 48, 49, 50, 51, 52, 53, 54, 55, 56, 57, 58, 59, 60, 61, 62, 63] (by decide +kernel) (by decide +kernel)
set_option maxRecDepth 20000 in
theorem gX5_shorten_X5_missing : GoodIn wsX5_shorten (wsV RX5 162 RX5 yX5_missing wsX5_missing) := goodIn_app (goodIn_of _ (by decide +kernel)) ggX5_shorten_X5_missing
set_option maxRecDepth 20000 in
theorem ggX5_shorten_X5_product : GoodIn wsX5_shorten wsX5_product := goodIn_r _ [18, 2, 29, 30, 31, 32, 33, 34, 35, 36, 37, 38, 39, 40, 41, 42, 43, 44, 45, 46, 47, 48, 49, 50, 51, 52, 53, 54, 55, 56, 57, 58, 59, 60, 61, 62, 63] (by decide +kernel) (by decide +kernel)
set_option maxRecDepth 20000 in
theorem gX5_shorten_X5_product : GoodIn wsX5_shorten (wsV RX5 182 RX5 yX5_product wsX5_product) := goodIn_app (goodIn_of _ (by decide +kernel)) ggX5_shorten_X5_product
set_option maxRecDepth 20000 in
theorem ggX5_shorten_X5_exchange : GoodIn wsX5_shorten wsX5_exchange := goodIn_r _ [22, 2, 29, 30, 31, 32, 33, 34, 35, 36, 37, 38, 39, 40, 41, 42, 43, 44, 45, 46, 47, 48, 49, 50, 51, 52, 53, 54, 55, 56, 57, 58, 59, 60, 61, 62, 63] (by decide +kernel) (by decide +kernel)
set_option maxRecDepth 20000 in
theorem gX5_shorten_X5_exchange : GoodIn wsX5_shorten (wsV RX5 185 RX5 yX5_exchange wsX5_exchange) := goodIn_app (goodIn_of _ (by decide +kernel)) ggX5_shorten_X5_exchange
set_option maxRecDepth 20000 in
theorem ggX5_shorten_X5_rounded : GoodIn wsX5_shorten wsX5_rounded := goodIn_r _ [25, 26, 27, 6, 28] (by decide +kernel) (by decide +kernel)
set_option maxRecDepth 20000 in
theorem gX5_shorten_X5_rounded : GoodIn wsX5_shorten (va_wsS RX5 188 yX5_rounded wsX5_rounded) := goodIn_app (goodIn_of _ (by decide +kernel)) ggX5_shorten_X5_rounded
theorem dX5_shorten_0 : decode cX5_shorten 0 = .ok (.aload_n 0, 1) := by decide +kernel
theorem dX5_shorten_1 : decode cX5_shorten 1 = .ok (.aload_n 0, 1) := by decide +kernel
theorem dX5_shorten_2 : decode cX5_shorten 2 = .ok (.iload_n 1, 1) := by decide +kernel
theorem dX5_shorten_3 : decode cX5_shorten 3 = .ok (.invokevirtual 162, 3) := by decide +kernel
theorem dX5_shorten_6 : decode cX5_shorten 6 = .ok (.putfield 59, 3) := by decide +kernel
theorem dX5_shorten_9 : decode cX5_shorten 9 = .ok (.aload_n 0, 1) := by decide +kernel
theorem dX5_shorten_10 : decode cX5_shorten 10 = .ok (.getfield 59, 3) := by decide +kernel
theorem dX5_shorten_13 : decode cX5_shorten 13 = .ok (.ifCond .le 5, 3) := by decide +kernel
theorem dX5_shorten_16 : decode cX5_shorten 16 = .ok (.iconst 0, 1) := by decide +kernel
theorem dX5_shorten_17 : decode cX5_shorten 17 = .ok (.ireturn, 1) := by decide +kernel
theorem dX5_shorten_18 : decode cX5_shorten 18 = .ok (.iconst 4, 1) := by decide +kernel
theorem dX5_shorten_19 : decode cX5_shorten 19 = .ok (.iload_n 1, 1) := by decide +kernel
theorem dX5_shorten_20 : decode cX5_shorten 20 = .ok (.imul, 1) := by decide +kernel
theorem dX5_shorten_21 : decode cX5_shorten 21 = .ok (.istore_n 2, 1) := by decide +kernel
theorem dX5_shorten_22 : decode cX5_shorten 22 = .ok (.iconst 0, 1) := by decide +kernel
theorem dX5_shorten_23 : decode cX5_shorten 23 = .ok (.istore_n 3, 1) := by decide +kernel
theorem dX5_shorten_24 : decode cX5_shorten 24 = .ok (.iconst 1, 1) := by decide +kernel
theorem dX5_shorten_25 : decode cX5_shorten 25 = .ok (.istore 4, 2) := by decide +kernel
theorem dX5_shorten_27 : decode cX5_shorten 27 = .ok (.iload 4, 2) := by decide +kernel
theorem dX5_shorten_29 : decode cX5_shorten 29 = .ok (.ifCond .eq 104, 3) := by decide +kernel
theorem dX5_shorten_32 : decode cX5_shorten 32 = .ok (.aload_n 0, 1) := by decide +kernel
theorem dX5_shorten_33 : decode cX5_shorten 33 = .ok (.iload_n 2, 1) := by decide +kernel
theorem dX5_shorten_34 : decode cX5_shorten 34 = .ok (.iconst 2, 1) := by decide +kernel
theorem dX5_shorten_35 : decode cX5_shorten 35 = .ok (.iadd, 1) := by decide +kernel
theorem dX5_shorten_36 : decode cX5_shorten 36 = .ok (.iload_n 2, 1) := by decide +kernel
theorem dX5_shorten_37 : decode cX5_shorten 37 = .ok (.iconst 2, 1) := by decide +kernel
theorem dX5_shorten_38 : decode cX5_shorten 38 = .ok (.iadd, 1) := by decide +kernel
theorem dX5_shorten_39 : decode cX5_shorten 39 = .ok (.invokevirtual 182, 3) := by decide +kernel
theorem dX5_shorten_42 : decode cX5_shorten 42 = .ok (.aload_n 0, 1) := by decide +kernel
theorem dX5_shorten_43 : decode cX5_shorten 43 = .ok (.iload_n 2, 1) := by decide +kernel
theorem dX5_shorten_44 : decode cX5_shorten 44 = .ok (.iload_n 2, 1) := by decide +kernel
theorem dX5_shorten_45 : decode cX5_shorten 45 = .ok (.invokevirtual 182, 3) := by decide +kernel
theorem dX5_shorten_48 : decode cX5_shorten 48 = .ok (.if_icmp .ge 8, 3) := by decide +kernel
theorem dX5_shorten_51 : decode cX5_shorten 51 = .ok (.aload_n 0, 1) := by decide +kernel
theorem dX5_shorten_52 : decode cX5_shorten 52 = .ok (.iload_n 2, 1) := by decide +kernel
theorem dX5_shorten_53 : decode cX5_shorten 53 = .ok (.invokevirtual 185, 3) := by decide +kernel
theorem dX5_shorten_56 : decode cX5_shorten 56 = .ok (.aload_n 0, 1) := by decide +kernel
theorem dX5_shorten_57 : decode cX5_shorten 57 = .ok (.iload_n 2, 1) := by decide +kernel
theorem dX5_shorten_58 : decode cX5_shorten 58 = .ok (.iload_n 2, 1) := by decide +kernel
theorem dX5_shorten_59 : decode cX5_shorten 59 = .ok (.iconst 2, 1) := by decide +kernel
theorem dX5_shorten_60 : decode cX5_shorten 60 = .ok (.iadd, 1) := by decide +kernel
theorem dX5_shorten_61 : decode cX5_shorten 61 = .ok (.invokevirtual 182, 3) := by decide +kernel
theorem dX5_shorten_64 : decode cX5_shorten 64 = .ok (.aload_n 0, 1) := by decide +kernel
theorem dX5_shorten_65 : decode cX5_shorten 65 = .ok (.iload_n 2, 1) := by decide +kernel
theorem dX5_shorten_66 : decode cX5_shorten 66 = .ok (.iload_n 2, 1) := by decide +kernel
theorem dX5_shorten_67 : decode cX5_shorten 67 = .ok (.invokevirtual 182, 3) := by decide +kernel
theorem dX5_shorten_70 : decode cX5_shorten 70 = .ok (.invokestatic 188, 3) := by decide +kernel
theorem dX5_shorten_73 : decode cX5_shorten 73 = .ok (.istore 4, 2) := by decide +kernel
theorem dX5_shorten_75 : decode cX5_shorten 75 = .ok (.aload_n 0, 1) := by decide +kernel
theorem dX5_shorten_76 : decode cX5_shorten 76 = .ok (.getfield 13, 3) := by decide +kernel
theorem dX5_shorten_79 : decode cX5_shorten 79 = .ok (.iload_n 2, 1) := by decide +kernel
theorem dX5_shorten_80 : decode cX5_shorten 80 = .ok (.iconst 2, 1) := by decide +kernel
theorem dX5_shorten_81 : decode cX5_shorten 81 = .ok (.iadd, 1) := by decide +kernel
theorem dX5_shorten_82 : decode cX5_shorten 82 = .ok (.dup2, 1) := by decide +kernel
theorem dX5_shorten_83 : decode cX5_shorten 83 = .ok (.iaload, 1) := by decide +kernel
theorem dX5_shorten_84 : decode cX5_shorten 84 = .ok (.iload 4, 2) := by decide +kernel
theorem dX5_shorten_86 : decode cX5_shorten 86 = .ok (.aload_n 0, 1) := by decide +kernel
theorem dX5_shorten_87 : decode cX5_shorten 87 = .ok (.getfield 13, 3) := by decide +kernel
theorem dX5_shorten_90 : decode cX5_shorten 90 = .ok (.iload_n 2, 1) := by decide +kernel
theorem dX5_shorten_91 : decode cX5_shorten 91 = .ok (.iaload, 1) := by decide +kernel
theorem dX5_shorten_92 : decode cX5_shorten 92 = .ok (.imul, 1) := by decide +kernel
theorem dX5_shorten_93 : decode cX5_shorten 93 = .ok (.isub, 1) := by decide +kernel
theorem dX5_shorten_94 : decode cX5_shorten 94 = .ok (.iastore, 1) := by decide +kernel
theorem dX5_shorten_95 : decode cX5_shorten 95 = .ok (.aload_n 0, 1) := by decide +kernel
theorem dX5_shorten_96 : decode cX5_shorten 96 = .ok (.getfield 13, 3) := by decide +kernel
theorem dX5_shorten_99 : decode cX5_shorten 99 = .ok (.iload_n 2, 1) := by decide +kernel
theorem dX5_shorten_100 : decode cX5_shorten 100 = .ok (.iconst 3, 1) := by decide +kernel
theorem dX5_shorten_101 : decode cX5_shorten 101 = .ok (.iadd, 1) := by decide +kernel
theorem dX5_shorten_102 : decode cX5_shorten 102 = .ok (.dup2, 1) := by decide +kernel
theorem dX5_shorten_103 : decode cX5_shorten 103 = .ok (.iaload, 1) := by decide +kernel
theorem dX5_shorten_104 : decode cX5_shorten 104 = .ok (.iload 4, 2) := by decide +kernel
theorem dX5_shorten_106 : decode cX5_shorten 106 = .ok (.aload_n 0, 1) := by decide +kernel
theorem dX5_shorten_107 : decode cX5_shorten 107 = .ok (.getfield 13, 3) := by decide +kernel
theorem dX5_shorten_110 : decode cX5_shorten 110 = .ok (.iload_n 2, 1) := by decide +kernel
theorem dX5_shorten_111 : decode cX5_shorten 111 = .ok (.iconst 1, 1) := by decide +kernel
theorem dX5_shorten_112 : decode cX5_shorten 112 = .ok (.iadd, 1) := by decide +kernel
theorem dX5_shorten_113 : decode cX5_shorten 113 = .ok (.iaload, 1) := by decide +kernel
theorem dX5_shorten_114 : decode cX5_shorten 114 = .ok (.imul, 1) := by decide +kernel
theorem dX5_shorten_115 : decode cX5_shorten 115 = .ok (.isub, 1) := by decide +kernel
theorem dX5_shorten_116 : decode cX5_shorten 116 = .ok (.iastore, 1) := by decide +kernel
theorem dX5_shorten_117 : decode cX5_shorten 117 = .ok (.iload_n 3, 1) := by decide +kernel
theorem dX5_shorten_118 : decode cX5_shorten 118 = .ok (.iload 4, 2) := by decide +kernel
theorem dX5_shorten_120 : decode cX5_shorten 120 = .ok (.ifCond .ne 7, 3) := by decide +kernel
theorem dX5_shorten_123 : decode cX5_shorten 123 = .ok (.iconst 0, 1) := by decide +kernel
theorem dX5_shorten_124 : decode cX5_shorten 124 = .ok (.goto 4, 3) := by decide +kernel
theorem dX5_shorten_127 : decode cX5_shorten 127 = .ok (.iconst 1, 1) := by decide +kernel
theorem dX5_shorten_128 : decode cX5_shorten 128 = .ok (.iadd, 1) := by decide +kernel
theorem dX5_shorten_129 : decode cX5_shorten 129 = .ok (.istore_n 3, 1) := by decide +kernel
theorem dX5_shorten_130 : decode cX5_shorten 130 = .ok (.goto (-103), 3) := by decide +kernel
theorem dX5_shorten_133 : decode cX5_shorten 133 = .ok (.iload_n 3, 1) := by decide +kernel
theorem dX5_shorten_134 : decode cX5_shorten 134 = .ok (.ireturn, 1) := by decide +kernel
set_option maxRecDepth 20000 in
theorem ggX5_setTint_X5_missing : GoodIn wsX5_setTint wsX5_missing := goodIn_r _ [7, 8, 9, 10, 6, 11, 12, 13, 14, 26, 27, 28, 29, 30, 31, 32, 33, 34, 35, 36, 37, 38, 39, 40, 41, 42, 43, 44, 45, 46, 47, 48, 49, 50, 51, 52, 53, 54, 55, 56, 57, 58, 59, 60] (by decide +kernel) (by decide +kernel)
set_option maxRecDepth 20000 in
theorem gX5_setTint_X5_missing : GoodIn wsX5_setTint (wsV RX5 162 RX5 yX5_missing wsX5_missing) := goodIn_app (goodIn_of _ (by decide +kernel)) ggX5_setTint_X5_missing
set_option maxRecDepth 20000 in
theorem ggX5_setTint_X5_areaIn : GoodIn wsX5_setTint wsX5_areaIn := goodIn_r _ [18, 19, 20, 21, 6, 22, 23, 24, 25, 26, 27, 28, 29, 30, 31, 32, 33, 34, 35, 36, 37, 38, 39, 40, 41, 42, 43, 44, 45, 46, 47, 48, 49, 50, 51, 52, 53, 54, 55, 56, 57, 58, 59, 60] (by decide +kernel) (by decide +kernel)
set_option maxRecDepth 20000 in
theorem gX5_setTint_X5_areaIn : GoodIn wsX5_setTint (wsV RX5 102 RX5 yX5_areaIn wsX5_areaIn) := goodIn_app (goodIn_of _ (by decide +kernel)) ggX5_setTint_X5_areaIn
set_option maxRecDepth 20000 in
theorem ggX5_setTint_X5_within : GoodIn wsX5_setTint wsX5_within := goodIn_r _ [14] (by decide +kernel) (by decide +kernel)
set_option maxRecDepth 20000 in
theorem gX5_setTint_X5_within : GoodIn wsX5_setTint (va_wsS RX5 71 yX5_within wsX5_within) := goodIn_app (goodIn_of _ (by decide +kernel)) ggX5_setTint_X5_within
theorem dX5_setTint_0 : decode cX5_setTint 0 = .ok (.aload_n 0, 1) := by decide +kernel
theorem dX5_setTint_1 : decode cX5_setTint 1 = .ok (.aload_n 0, 1) := by decide +kernel
theorem dX5_setTint_2 : decode cX5_setTint 2 = .ok (.iload_n 1, 1) := by decide +kernel
theorem dX5_setTint_3 : decode cX5_setTint 3 = .ok (.invokevirtual 162, 3) := by decide +kernel
theorem dX5_setTint_6 : decode cX5_setTint 6 = .ok (.putfield 59, 3) := by decide +kernel
theorem dX5_setTint_9 : decode cX5_setTint 9 = .ok (.aload_n 0, 1) := by decide +kernel
theorem dX5_setTint_10 : decode cX5_setTint 10 = .ok (.aload_n 0, 1) := by decide +kernel
theorem dX5_setTint_11 : decode cX5_setTint 11 = .ok (.getfield 59, 3) := by decide +kernel
theorem dX5_setTint_14 : decode cX5_setTint 14 = .ok (.ifCond .ne 20, 3) := by decide +kernel
theorem dX5_setTint_17 : decode cX5_setTint 17 = .ok (.iload_n 2, 1) := by decide +kernel
theorem dX5_setTint_18 : decode cX5_setTint 18 = .ok (.iconst 0, 1) := by decide +kernel
theorem dX5_setTint_19 : decode cX5_setTint 19 = .ok (.aload_n 0, 1) := by decide +kernel
theorem dX5_setTint_20 : decode cX5_setTint 20 = .ok (.iload_n 1, 1) := by decide +kernel
theorem dX5_setTint_21 : decode cX5_setTint 21 = .ok (.invokevirtual 102, 3) := by decide +kernel
theorem dX5_setTint_24 : decode cX5_setTint 24 = .ok (.invokestatic 71, 3) := by decide +kernel
theorem dX5_setTint_27 : decode cX5_setTint 27 = .ok (.ifCond .ne 7, 3) := by decide +kernel
theorem dX5_setTint_30 : decode cX5_setTint 30 = .ok (.iconst 3, 1) := by decide +kernel
theorem dX5_setTint_31 : decode cX5_setTint 31 = .ok (.goto 7, 3) := by decide +kernel
theorem dX5_setTint_34 : decode cX5_setTint 34 = .ok (.aload_n 0, 1) := by decide +kernel
theorem dX5_setTint_35 : decode cX5_setTint 35 = .ok (.getfield 59, 3) := by decide +kernel
theorem dX5_setTint_38 : decode cX5_setTint 38 = .ok (.putfield 59, 3) := by decide +kernel
theorem dX5_setTint_41 : decode cX5_setTint 41 = .ok (.aload_n 0, 1) := by decide +kernel
theorem dX5_setTint_42 : decode cX5_setTint 42 = .ok (.getfield 59, 3) := by decide +kernel
theorem dX5_setTint_45 : decode cX5_setTint 45 = .ok (.ifCond .le 5, 3) := by decide +kernel
theorem dX5_setTint_48 : decode cX5_setTint 48 = .ok (.iconst 0, 1) := by decide +kernel
theorem dX5_setTint_49 : decode cX5_setTint 49 = .ok (.ireturn, 1) := by decide +kernel
theorem dX5_setTint_50 : decode cX5_setTint 50 = .ok (.aload_n 0, 1) := by decide +kernel
theorem dX5_setTint_51 : decode cX5_setTint 51 = .ok (.getfield 23, 3) := by decide +kernel
theorem dX5_setTint_54 : decode cX5_setTint 54 = .ok (.iload_n 1, 1) := by decide +kernel
theorem dX5_setTint_55 : decode cX5_setTint 55 = .ok (.iaload, 1) := by decide +kernel
theorem dX5_setTint_56 : decode cX5_setTint 56 = .ok (.istore_n 3, 1) := by decide +kernel
theorem dX5_setTint_57 : decode cX5_setTint 57 = .ok (.aload_n 0, 1) := by decide +kernel
theorem dX5_setTint_58 : decode cX5_setTint 58 = .ok (.getfield 23, 3) := by decide +kernel
theorem dX5_setTint_61 : decode cX5_setTint 61 = .ok (.iload_n 1, 1) := by decide +kernel
theorem dX5_setTint_62 : decode cX5_setTint 62 = .ok (.iload_n 2, 1) := by decide +kernel
theorem dX5_setTint_63 : decode cX5_setTint 63 = .ok (.iastore, 1) := by decide +kernel
theorem dX5_setTint_64 : decode cX5_setTint 64 = .ok (.iload_n 3, 1) := by decide +kernel
theorem dX5_setTint_65 : decode cX5_setTint 65 = .ok (.ireturn, 1) := by decide +kernel
set_option maxRecDepth 20000 in
theorem ggX5_setGain_X5_within : GoodIn wsX5_setGain wsX5_within := goodIn_r _ [6] (by decide +kernel) (by decide +kernel)
set_option maxRecDepth 20000 in
theorem gX5_setGain_X5_within : GoodIn wsX5_setGain (va_wsS RX5 71 yX5_within wsX5_within) := goodIn_app (goodIn_of _ (by decide +kernel)) ggX5_setGain_X5_within
theorem dX5_setGain_0 : decode cX5_setGain 0 = .ok (.aload_n 0, 1) := by decide +kernel
theorem dX5_setGain_1 : decode cX5_setGain 1 = .ok (.iload_n 1, 1) := by decide +kernel
theorem dX5_setGain_2 : decode cX5_setGain 2 = .ok (.iconst 0, 1) := by decide +kernel
theorem dX5_setGain_3 : decode cX5_setGain 3 = .ok (.bipush 100, 2) := by decide +kernel
theorem dX5_setGain_5 : decode cX5_setGain 5 = .ok (.invokestatic 71, 3) := by decide +kernel
theorem dX5_setGain_8 : decode cX5_setGain 8 = .ok (.ifCond .eq 7, 3) := by decide +kernel
theorem dX5_setGain_11 : decode cX5_setGain 11 = .ok (.iconst 0, 1) := by decide +kernel
theorem dX5_setGain_12 : decode cX5_setGain 12 = .ok (.goto 4, 3) := by decide +kernel
theorem dX5_setGain_15 : decode cX5_setGain 15 = .ok (.iconst 1, 1) := by decide +kernel
theorem dX5_setGain_16 : decode cX5_setGain 16 = .ok (.putfield 59, 3) := by decide +kernel
theorem dX5_setGain_19 : decode cX5_setGain 19 = .ok (.aload_n 0, 1) := by decide +kernel
theorem dX5_setGain_20 : decode cX5_setGain 20 = .ok (.getfield 59, 3) := by decide +kernel
theorem dX5_setGain_23 : decode cX5_setGain 23 = .ok (.ifCond .le 5, 3) := by decide +kernel
theorem dX5_setGain_26 : decode cX5_setGain 26 = .ok (.iconst 0, 1) := by decide +kernel
theorem dX5_setGain_27 : decode cX5_setGain 27 = .ok (.ireturn, 1) := by decide +kernel
theorem dX5_setGain_28 : decode cX5_setGain 28 = .ok (.aload_n 0, 1) := by decide +kernel
theorem dX5_setGain_29 : decode cX5_setGain 29 = .ok (.getfield 191, 3) := by decide +kernel
theorem dX5_setGain_32 : decode cX5_setGain 32 = .ok (.istore_n 2, 1) := by decide +kernel
theorem dX5_setGain_33 : decode cX5_setGain 33 = .ok (.aload_n 0, 1) := by decide +kernel
theorem dX5_setGain_34 : decode cX5_setGain 34 = .ok (.iload_n 1, 1) := by decide +kernel
theorem dX5_setGain_35 : decode cX5_setGain 35 = .ok (.putfield 191, 3) := by decide +kernel
theorem dX5_setGain_38 : decode cX5_setGain 38 = .ok (.iload_n 2, 1) := by decide +kernel
theorem dX5_setGain_39 : decode cX5_setGain 39 = .ok (.ireturn, 1) := by decide +kernel
set_option maxRecDepth 20000 in
theorem ggX5_propertyOf_X5_layScreen : GoodIn wsX5_propertyOf wsX5_layScreen := goodIn_r _ [12, 1, 13, 14, 15, 11, 16, 4, 2, 3, 17, 18, 19, 20, 21, 22, 23, 24, 25, 26, 27, 28, 33, 34, 35, 36, 37, 38, 39, 40, 41, 42, 43, 44, 45, 46, 47, 48, 49, 50, 51, 52, 53, 54, 55, 56, 57, 58, 59, 60, 61, 62, 63, 64, 65, 66, 67] (by decide +kernel) (by decide +kernel)
set_option maxRecDepth 20000 in
theorem gX5_propertyOf_X5_layScreen : GoodIn wsX5_propertyOf (wsV RX5 109 RX5 yX5_layScreen wsX5_layScreen) := goodIn_app (goodIn_of _ (by decide +kernel)) ggX5_propertyOf_X5_layScreen
set_option maxRecDepth 20000 in
theorem ggX5_propertyOf_X5_areaIn : GoodIn wsX5_propertyOf wsX5_areaIn := goodIn_r _ [32, 1, 23, 24, 11, 25, 20, 21, 22, 33, 34, 35, 36, 37, 38, 39, 40, 41, 42, 43, 44, 45, 46, 47, 48, 49, 50, 51, 52, 53, 54, 55, 56, 57, 58, 59, 60, 61, 62, 63, 64, 65, 66, 67] (by decide +kernel) (by decide +kernel)
set_option maxRecDepth 20000 in
theorem gX5_propertyOf_X5_areaIn : GoodIn wsX5_propertyOf (wsV RX5 102 RX5 yX5_areaIn wsX5_areaIn) := goodIn_app (goodIn_of _ (by decide +kernel)) ggX5_propertyOf_X5_areaIn
theorem dX5_propertyOf_0 : decode cX5_propertyOf 0 = .ok (.aload_n 0, 1) := by decide +kernel
theorem dX5_propertyOf_1 : decode cX5_propertyOf 1 = .ok (.iload_n 1, 1) := by decide +kernel
theorem dX5_propertyOf_2 : decode cX5_propertyOf 2 = .ok (.invokevirtual 109, 3) := by decide +kernel
theorem dX5_propertyOf_5 : decode cX5_propertyOf 5 = .ok (.iload_n 2, 1) := by decide +kernel
theorem dX5_propertyOf_6 : decode cX5_propertyOf 6 = .ok (.tableswitch 108 0 9 #[54, 54, 54, 54, 65, 71, 76, 81, 86, 93], 54) := by decide +kernel
theorem dX5_propertyOf_60 : decode cX5_propertyOf 60 = .ok (.aload_n 0, 1) := by decide +kernel
theorem dX5_propertyOf_61 : decode cX5_propertyOf 61 = .ok (.getfield 13, 3) := by decide +kernel
theorem dX5_propertyOf_64 : decode cX5_propertyOf 64 = .ok (.iconst 4, 1) := by decide +kernel
theorem dX5_propertyOf_65 : decode cX5_propertyOf 65 = .ok (.iload_n 1, 1) := by decide +kernel
theorem dX5_propertyOf_66 : decode cX5_propertyOf 66 = .ok (.imul, 1) := by decide +kernel
theorem dX5_propertyOf_67 : decode cX5_propertyOf 67 = .ok (.iload_n 2, 1) := by decide +kernel
theorem dX5_propertyOf_68 : decode cX5_propertyOf 68 = .ok (.iadd, 1) := by decide +kernel
theorem dX5_propertyOf_69 : decode cX5_propertyOf 69 = .ok (.iaload, 1) := by decide +kernel
theorem dX5_propertyOf_70 : decode cX5_propertyOf 70 = .ok (.ireturn, 1) := by decide +kernel
theorem dX5_propertyOf_71 : decode cX5_propertyOf 71 = .ok (.aload_n 0, 1) := by decide +kernel
theorem dX5_propertyOf_72 : decode cX5_propertyOf 72 = .ok (.iload_n 1, 1) := by decide +kernel
theorem dX5_propertyOf_73 : decode cX5_propertyOf 73 = .ok (.invokevirtual 102, 3) := by decide +kernel
theorem dX5_propertyOf_76 : decode cX5_propertyOf 76 = .ok (.ireturn, 1) := by decide +kernel
theorem dX5_propertyOf_77 : decode cX5_propertyOf 77 = .ok (.aload_n 0, 1) := by decide +kernel
theorem dX5_propertyOf_78 : decode cX5_propertyOf 78 = .ok (.getfield 89, 3) := by decide +kernel
theorem dX5_propertyOf_81 : decode cX5_propertyOf 81 = .ok (.ireturn, 1) := by decide +kernel
theorem dX5_propertyOf_82 : decode cX5_propertyOf 82 = .ok (.aload_n 0, 1) := by decide +kernel
theorem dX5_propertyOf_83 : decode cX5_propertyOf 83 = .ok (.getfield 92, 3) := by decide +kernel
theorem dX5_propertyOf_86 : decode cX5_propertyOf 86 = .ok (.ireturn, 1) := by decide +kernel
theorem dX5_propertyOf_87 : decode cX5_propertyOf 87 = .ok (.aload_n 0, 1) := by decide +kernel
theorem dX5_propertyOf_88 : decode cX5_propertyOf 88 = .ok (.getfield 82, 3) := by decide +kernel
theorem dX5_propertyOf_91 : decode cX5_propertyOf 91 = .ok (.ireturn, 1) := by decide +kernel
theorem dX5_propertyOf_92 : decode cX5_propertyOf 92 = .ok (.aload_n 0, 1) := by decide +kernel
theorem dX5_propertyOf_93 : decode cX5_propertyOf 93 = .ok (.getfield 17, 3) := by decide +kernel
theorem dX5_propertyOf_96 : decode cX5_propertyOf 96 = .ok (.iload_n 1, 1) := by decide +kernel
theorem dX5_propertyOf_97 : decode cX5_propertyOf 97 = .ok (.iaload, 1) := by decide +kernel
theorem dX5_propertyOf_98 : decode cX5_propertyOf 98 = .ok (.ireturn, 1) := by decide +kernel
theorem dX5_propertyOf_99 : decode cX5_propertyOf 99 = .ok (.aload_n 0, 1) := by decide +kernel
theorem dX5_propertyOf_100 : decode cX5_propertyOf 100 = .ok (.getfield 20, 3) := by decide +kernel
theorem dX5_propertyOf_103 : decode cX5_propertyOf 103 = .ok (.iload_n 1, 1) := by decide +kernel
theorem dX5_propertyOf_104 : decode cX5_propertyOf 104 = .ok (.baload, 1) := by decide +kernel
theorem dX5_propertyOf_105 : decode cX5_propertyOf 105 = .ok (.ifCond .eq 7, 3) := by decide +kernel
theorem dX5_propertyOf_108 : decode cX5_propertyOf 108 = .ok (.iconst 1, 1) := by decide +kernel
theorem dX5_propertyOf_109 : decode cX5_propertyOf 109 = .ok (.goto 4, 3) := by decide +kernel
theorem dX5_propertyOf_112 : decode cX5_propertyOf 112 = .ok (.iconst 0, 1) := by decide +kernel
theorem dX5_propertyOf_113 : decode cX5_propertyOf 113 = .ok (.ireturn, 1) := by decide +kernel
theorem dX5_propertyOf_114 : decode cX5_propertyOf 114 = .ok (.aload_n 0, 1) := by decide +kernel
theorem dX5_propertyOf_115 : decode cX5_propertyOf 115 = .ok (.getfield 23, 3) := by decide +kernel
theorem dX5_propertyOf_118 : decode cX5_propertyOf 118 = .ok (.iload_n 1, 1) := by decide +kernel
theorem dX5_propertyOf_119 : decode cX5_propertyOf 119 = .ok (.iaload, 1) := by decide +kernel
theorem dX5_propertyOf_120 : decode cX5_propertyOf 120 = .ok (.ireturn, 1) := by decide +kernel
set_option maxRecDepth 20000 in
theorem ggX5_screen_X5_within : GoodIn wsX5_screen wsX5_within := goodIn_r _ [5] (by decide +kernel) (by decide +kernel)
set_option maxRecDepth 20000 in
theorem gX5_screen_X5_within : GoodIn wsX5_screen (va_wsS RX5 71 yX5_within wsX5_within) := goodIn_app (goodIn_of _ (by decide +kernel)) ggX5_screen_X5_within
set_option maxRecDepth 20000 in
theorem ggX5_screen_X5_wrong : GoodIn wsX5_screen wsX5_wrong := goodIn_r _ [9, 10, 11, 12, 4, 13, 2, 3, 5, 49, 50, 51, 52, 53, 54, 55, 56, 57, 58, 59, 60, 61, 62, 63, 64, 65, 66, 67, 68, 69, 70, 71, 72, 73, 74, 75, 76, 77, 78, 79, 80, 81, 82, 83] (by decide +kernel) (by decide +kernel)
set_option maxRecDepth 20000 in
theorem gX5_screen_X5_wrong : GoodIn wsX5_screen (wsV RX5 174 RX5 yX5_wrong wsX5_wrong) := goodIn_app (goodIn_of _ (by decide +kernel)) ggX5_screen_X5_wrong
set_option maxRecDepth 20000 in
theorem ggX5_screen_X5_propertyOf : GoodIn wsX5_screen wsX5_propertyOf := goodIn_r _ [17, 18, 19, 20, 21, 22, 23, 24, 25, 26, 27, 4, 28, 29, 30, 31, 32, 33, 34, 35, 36, 37, 38, 39, 40, 41, 42, 43, 44, 45, 46, 47, 48, 49, 50, 51, 52, 53, 54, 55, 56, 57, 58, 59, 60, 61, 62, 63, 64, 65, 66, 67, 68, 69, 70, 71, 72, 73, 74, 75, 76, 77, 78, 79, 80, 81, 82, 83] (by decide +kernel) (by decide +kernel)
set_option maxRecDepth 20000 in
theorem gX5_screen_X5_propertyOf : GoodIn wsX5_screen (wsV RX5 194 RX5 yX5_propertyOf wsX5_propertyOf) := goodIn_app (goodIn_of _ (by decide +kernel)) ggX5_screen_X5_propertyOf
theorem dX5_screen_0 : decode cX5_screen 0 = .ok (.aload_n 0, 1) := by decide +kernel
theorem dX5_screen_1 : decode cX5_screen 1 = .ok (.aload_n 0, 1) := by decide +kernel
theorem dX5_screen_2 : decode cX5_screen 2 = .ok (.iload_n 1, 1) := by decide +kernel
theorem dX5_screen_3 : decode cX5_screen 3 = .ok (.iload_n 2, 1) := by decide +kernel
theorem dX5_screen_4 : decode cX5_screen 4 = .ok (.iconst 0, 1) := by decide +kernel
theorem dX5_screen_5 : decode cX5_screen 5 = .ok (.bipush 10, 2) := by decide +kernel
theorem dX5_screen_7 : decode cX5_screen 7 = .ok (.invokestatic 71, 3) := by decide +kernel
theorem dX5_screen_10 : decode cX5_screen 10 = .ok (.invokevirtual 174, 3) := by decide +kernel
theorem dX5_screen_13 : decode cX5_screen 13 = .ok (.putfield 59, 3) := by decide +kernel
theorem dX5_screen_16 : decode cX5_screen 16 = .ok (.aload_n 0, 1) := by decide +kernel
theorem dX5_screen_17 : decode cX5_screen 17 = .ok (.getfield 59, 3) := by decide +kernel
theorem dX5_screen_20 : decode cX5_screen 20 = .ok (.ifCond .le 7, 3) := by decide +kernel
theorem dX5_screen_23 : decode cX5_screen 23 = .ok (.iconst 0, 1) := by decide +kernel
theorem dX5_screen_24 : decode cX5_screen 24 = .ok (.goto 9, 3) := by decide +kernel
theorem dX5_screen_27 : decode cX5_screen 27 = .ok (.aload_n 0, 1) := by decide +kernel
theorem dX5_screen_28 : decode cX5_screen 28 = .ok (.iload_n 1, 1) := by decide +kernel
theorem dX5_screen_29 : decode cX5_screen 29 = .ok (.iload_n 2, 1) := by decide +kernel
theorem dX5_screen_30 : decode cX5_screen 30 = .ok (.invokevirtual 194, 3) := by decide +kernel
theorem dX5_screen_33 : decode cX5_screen 33 = .ok (.ireturn, 1) := by decide +kernel
set_option maxRecDepth 20000 in
theorem ggX5_isPixel_X5_within : GoodIn wsX5_isPixel wsX5_within := goodIn_r _ [4] (by decide +kernel) (by decide +kernel)
set_option maxRecDepth 20000 in
theorem gX5_isPixel_X5_within : GoodIn wsX5_isPixel (va_wsS RX5 71 yX5_within wsX5_within) := goodIn_app (goodIn_of _ (by decide +kernel)) ggX5_isPixel_X5_within
theorem dX5_isPixel_0 : decode cX5_isPixel 0 = .ok (.iload_n 0, 1) := by decide +kernel
theorem dX5_isPixel_1 : decode cX5_isPixel 1 = .ok (.sipush (-10000), 3) := by decide +kernel
theorem dX5_isPixel_4 : decode cX5_isPixel 4 = .ok (.sipush 10000, 3) := by decide +kernel
theorem dX5_isPixel_7 : decode cX5_isPixel 7 = .ok (.invokestatic 71, 3) := by decide +kernel
theorem dX5_isPixel_10 : decode cX5_isPixel 10 = .ok (.ifCond .eq 20, 3) := by decide +kernel
theorem dX5_isPixel_13 : decode cX5_isPixel 13 = .ok (.iload_n 1, 1) := by decide +kernel
theorem dX5_isPixel_14 : decode cX5_isPixel 14 = .ok (.sipush (-10000), 3) := by decide +kernel
theorem dX5_isPixel_17 : decode cX5_isPixel 17 = .ok (.sipush 10000, 3) := by decide +kernel
theorem dX5_isPixel_20 : decode cX5_isPixel 20 = .ok (.invokestatic 71, 3) := by decide +kernel
theorem dX5_isPixel_23 : decode cX5_isPixel 23 = .ok (.ifCond .eq 7, 3) := by decide +kernel
theorem dX5_isPixel_26 : decode cX5_isPixel 26 = .ok (.iconst 1, 1) := by decide +kernel
theorem dX5_isPixel_27 : decode cX5_isPixel 27 = .ok (.goto 4, 3) := by decide +kernel
theorem dX5_isPixel_30 : decode cX5_isPixel 30 = .ok (.iconst 0, 1) := by decide +kernel
theorem dX5_isPixel_31 : decode cX5_isPixel 31 = .ok (.ireturn, 1) := by decide +kernel
set_option maxRecDepth 20000 in
theorem ggX5_place_X5_isPixel : GoodIn wsX5_place wsX5_isPixel := goodIn_r _ [5, 6, 7, 4, 8] (by decide +kernel) (by decide +kernel)
set_option maxRecDepth 20000 in
theorem gX5_place_X5_isPixel : GoodIn wsX5_place (va_wsS RX5 197 yX5_isPixel wsX5_isPixel) := goodIn_app (goodIn_of _ (by decide +kernel)) ggX5_place_X5_isPixel
set_option maxRecDepth 20000 in
theorem ggX5_place_X5_wrong : GoodIn wsX5_place wsX5_wrong := goodIn_r _ [12, 13, 14, 15, 4, 16, 6, 7, 8, 48, 49, 50, 51, 52, 53, 54, 55, 56, 57, 58, 59, 60, 61, 62, 63, 64, 65, 66, 67, 68, 69, 70, 71, 72, 73, 74, 75, 76, 77, 78, 79, 80, 81, 82] (by decide +kernel) (by decide +kernel)
set_option maxRecDepth 20000 in
theorem gX5_place_X5_wrong : GoodIn wsX5_place (wsV RX5 174 RX5 yX5_wrong wsX5_wrong) := goodIn_app (goodIn_of _ (by decide +kernel)) ggX5_place_X5_wrong
set_option maxRecDepth 20000 in
theorem ggX5_place_X5_layScreen : GoodIn wsX5_place wsX5_layScreen := goodIn_r _ [20, 21, 22, 23, 24, 4, 25, 26, 27, 28, 29, 30, 31, 32, 33, 34, 35, 36, 37, 38, 39, 40, 48, 49, 50, 51, 52, 53, 54, 55, 56, 57, 58, 59, 60, 61, 62, 63, 64, 65, 66, 67, 68, 69, 70, 71, 72, 73, 74, 75, 76, 77, 78, 79, 80, 81, 82] (by decide +kernel) (by decide +kernel)
set_option maxRecDepth 20000 in
theorem gX5_place_X5_layScreen : GoodIn wsX5_place (wsV RX5 109 RX5 yX5_layScreen wsX5_layScreen) := goodIn_app (goodIn_of _ (by decide +kernel)) ggX5_place_X5_layScreen
set_option maxRecDepth 20000 in
theorem ggX5_place_X5_placeAt : GoodIn wsX5_place wsX5_placeAt := goodIn_r _ [44, 26, 27, 28, 45, 46, 4, 47, 38, 39, 40, 48, 49, 50, 51, 52, 53, 54, 55, 56, 57, 58, 59, 60, 61, 62, 63, 64, 65, 66, 67, 68, 69, 70, 71, 72, 73, 74, 75, 76, 77, 78, 79, 80, 81, 82] (by decide +kernel) (by decide +kernel)
set_option maxRecDepth 20000 in
theorem gX5_place_X5_placeAt : GoodIn wsX5_place (wsV RX5 201 RX5 yX5_placeAt wsX5_placeAt) := goodIn_app (goodIn_of _ (by decide +kernel)) ggX5_place_X5_placeAt
theorem dX5_place_0 : decode cX5_place 0 = .ok (.aload_n 0, 1) := by decide +kernel
theorem dX5_place_1 : decode cX5_place 1 = .ok (.aload_n 0, 1) := by decide +kernel
theorem dX5_place_2 : decode cX5_place 2 = .ok (.iload_n 1, 1) := by decide +kernel
theorem dX5_place_3 : decode cX5_place 3 = .ok (.iload_n 2, 1) := by decide +kernel
theorem dX5_place_4 : decode cX5_place 4 = .ok (.iload_n 3, 1) := by decide +kernel
theorem dX5_place_5 : decode cX5_place 5 = .ok (.invokestatic 197, 3) := by decide +kernel
theorem dX5_place_8 : decode cX5_place 8 = .ok (.invokevirtual 174, 3) := by decide +kernel
theorem dX5_place_11 : decode cX5_place 11 = .ok (.putfield 59, 3) := by decide +kernel
theorem dX5_place_14 : decode cX5_place 14 = .ok (.aload_n 0, 1) := by decide +kernel
theorem dX5_place_15 : decode cX5_place 15 = .ok (.getfield 59, 3) := by decide +kernel
theorem dX5_place_18 : decode cX5_place 18 = .ok (.ifCond .le 5, 3) := by decide +kernel
theorem dX5_place_21 : decode cX5_place 21 = .ok (.iconst 0, 1) := by decide +kernel
theorem dX5_place_22 : decode cX5_place 22 = .ok (.ireturn, 1) := by decide +kernel
theorem dX5_place_23 : decode cX5_place 23 = .ok (.aload_n 0, 1) := by decide +kernel
theorem dX5_place_24 : decode cX5_place 24 = .ok (.iload_n 1, 1) := by decide +kernel
theorem dX5_place_25 : decode cX5_place 25 = .ok (.invokevirtual 109, 3) := by decide +kernel
theorem dX5_place_28 : decode cX5_place 28 = .ok (.aload_n 0, 1) := by decide +kernel
theorem dX5_place_29 : decode cX5_place 29 = .ok (.iload_n 2, 1) := by decide +kernel
theorem dX5_place_30 : decode cX5_place 30 = .ok (.iload_n 3, 1) := by decide +kernel
theorem dX5_place_31 : decode cX5_place 31 = .ok (.invokevirtual 201, 3) := by decide +kernel
theorem dX5_place_34 : decode cX5_place 34 = .ok (.ireturn, 1) := by decide +kernel
set_option maxRecDepth 20000 in
theorem ggX5_growth_X5_within : GoodIn wsX5_growth wsX5_within := goodIn_r _ [7] (by decide +kernel) (by decide +kernel)
set_option maxRecDepth 20000 in
theorem gX5_growth_X5_within : GoodIn wsX5_growth (va_wsS RX5 71 yX5_within wsX5_within) := goodIn_app (goodIn_of _ (by decide +kernel)) ggX5_growth_X5_within
set_option maxRecDepth 20000 in
theorem ggX5_growth_X5_wrong : GoodIn wsX5_growth wsX5_wrong := goodIn_r _ [11, 12, 13, 14, 6, 15, 4, 5, 7, 62, 63, 64, 65, 66, 67, 68, 69, 70, 71, 72, 73, 74, 75, 76, 77, 78, 79, 80, 81, 82, 83, 84, 85, 86, 87, 88, 89, 90, 91, 92, 93, 94, 95, 96] (by decide +kernel) (by decide +kernel)
set_option maxRecDepth 20000 in
theorem gX5_growth_X5_wrong : GoodIn wsX5_growth (wsV RX5 174 RX5 yX5_wrong wsX5_wrong) := goodIn_app (goodIn_of _ (by decide +kernel)) ggX5_growth_X5_wrong
set_option maxRecDepth 20000 in
theorem ggX5_growth_X5_areaIn : GoodIn wsX5_growth wsX5_areaIn := goodIn_r _ [19, 20, 21, 22, 6, 23, 24, 25, 26, 62, 63, 64, 65, 66, 67, 68, 69, 70, 71, 72, 73, 74, 75, 76, 77, 78, 79, 80, 81, 82, 83, 84, 85, 86, 87, 88, 89, 90, 91, 92, 93, 94, 95, 96] (by decide +kernel) (by decide +kernel)
set_option maxRecDepth 20000 in
theorem gX5_growth_X5_areaIn : GoodIn wsX5_growth (wsV RX5 102 RX5 yX5_areaIn wsX5_areaIn) := goodIn_app (goodIn_of _ (by decide +kernel)) ggX5_growth_X5_areaIn
set_option maxRecDepth 20000 in
theorem ggX5_growth_X5_layGrowth : GoodIn wsX5_growth wsX5_layGrowth := goodIn_r _ [30, 31, 2, 32, 3, 33, 34, 35, 6, 36, 20, 37, 38, 39, 40, 41, 42, 43, 44, 45, 24, 25, 26, 21, 22, 23, 46, 47, 48, 16, 17, 18, 19, 49, 50, 51, 52, 53, 54, 55, 56, 57, 58, 59, 60, 61, 62, 63, 64, 65, 66, 67, 68, 69, 70, 71, 72, 73, 74, 75, 76, 77, 78, 79, 80, 81, 82, 83, 84, 85, 86, 87, 88, 89, 90, 91, 92, 93, 94, 95, 96] (by decide +kernel) (by decide +kernel)
set_option maxRecDepth 20000 in
theorem gX5_growth_X5_layGrowth : GoodIn wsX5_growth (wsV RX5 120 RX5 yX5_layGrowth wsX5_layGrowth) := goodIn_app (goodIn_of _ (by decide +kernel)) ggX5_growth_X5_layGrowth
theorem dX5_growth_0 : decode cX5_growth 0 = .ok (.aload_n 0, 1) := by decide +kernel
theorem dX5_growth_1 : decode cX5_growth 1 = .ok (.aload_n 0, 1) := by decide +kernel
theorem dX5_growth_2 : decode cX5_growth 2 = .ok (.iload_n 1, 1) := by decide +kernel
theorem dX5_growth_3 : decode cX5_growth 3 = .ok (.iload_n 3, 1) := by decide +kernel
theorem dX5_growth_4 : decode cX5_growth 4 = .ok (.iconst 0, 1) := by decide +kernel
theorem dX5_growth_5 : decode cX5_growth 5 = .ok (.iconst 1, 1) := by decide +kernel
theorem dX5_growth_6 : decode cX5_growth 6 = .ok (.invokestatic 71, 3) := by decide +kernel
theorem dX5_growth_9 : decode cX5_growth 9 = .ok (.invokevirtual 174, 3) := by decide +kernel
theorem dX5_growth_12 : decode cX5_growth 12 = .ok (.putfield 59, 3) := by decide +kernel
theorem dX5_growth_15 : decode cX5_growth 15 = .ok (.aload_n 0, 1) := by decide +kernel
theorem dX5_growth_16 : decode cX5_growth 16 = .ok (.aload_n 0, 1) := by decide +kernel
theorem dX5_growth_17 : decode cX5_growth 17 = .ok (.getfield 59, 3) := by decide +kernel
theorem dX5_growth_20 : decode cX5_growth 20 = .ok (.ifCond .ne 22, 3) := by decide +kernel
theorem dX5_growth_23 : decode cX5_growth 23 = .ok (.iload_n 2, 1) := by decide +kernel
theorem dX5_growth_24 : decode cX5_growth 24 = .ok (.iconst 0, 1) := by decide +kernel
theorem dX5_growth_25 : decode cX5_growth 25 = .ok (.aload_n 0, 1) := by decide +kernel
theorem dX5_growth_26 : decode cX5_growth 26 = .ok (.iload_n 1, 1) := by decide +kernel
theorem dX5_growth_27 : decode cX5_growth 27 = .ok (.invokevirtual 102, 3) := by decide +kernel
theorem dX5_growth_30 : decode cX5_growth 30 = .ok (.iconst 1, 1) := by decide +kernel
theorem dX5_growth_31 : decode cX5_growth 31 = .ok (.isub, 1) := by decide +kernel
theorem dX5_growth_32 : decode cX5_growth 32 = .ok (.invokestatic 71, 3) := by decide +kernel
theorem dX5_growth_35 : decode cX5_growth 35 = .ok (.ifCond .ne 7, 3) := by decide +kernel
theorem dX5_growth_38 : decode cX5_growth 38 = .ok (.iconst 3, 1) := by decide +kernel
theorem dX5_growth_39 : decode cX5_growth 39 = .ok (.goto 7, 3) := by decide +kernel
theorem dX5_growth_42 : decode cX5_growth 42 = .ok (.aload_n 0, 1) := by decide +kernel
theorem dX5_growth_43 : decode cX5_growth 43 = .ok (.getfield 59, 3) := by decide +kernel
theorem dX5_growth_46 : decode cX5_growth 46 = .ok (.putfield 59, 3) := by decide +kernel
theorem dX5_growth_49 : decode cX5_growth 49 = .ok (.aload_n 0, 1) := by decide +kernel
theorem dX5_growth_50 : decode cX5_growth 50 = .ok (.getfield 59, 3) := by decide +kernel
theorem dX5_growth_53 : decode cX5_growth 53 = .ok (.ifCond .le 5, 3) := by decide +kernel
theorem dX5_growth_56 : decode cX5_growth 56 = .ok (.iconst 0, 1) := by decide +kernel
theorem dX5_growth_57 : decode cX5_growth 57 = .ok (.ireturn, 1) := by decide +kernel
theorem dX5_growth_58 : decode cX5_growth 58 = .ok (.aload_n 0, 1) := by decide +kernel
theorem dX5_growth_59 : decode cX5_growth 59 = .ok (.iload_n 1, 1) := by decide +kernel
theorem dX5_growth_60 : decode cX5_growth 60 = .ok (.invokevirtual 120, 3) := by decide +kernel
theorem dX5_growth_63 : decode cX5_growth 63 = .ok (.iload_n 3, 1) := by decide +kernel
theorem dX5_growth_64 : decode cX5_growth 64 = .ok (.ifCond .ne 12, 3) := by decide +kernel
theorem dX5_growth_67 : decode cX5_growth 67 = .ok (.aload_n 0, 1) := by decide +kernel
theorem dX5_growth_68 : decode cX5_growth 68 = .ok (.getfield 29, 3) := by decide +kernel
theorem dX5_growth_71 : decode cX5_growth 71 = .ok (.iload_n 2, 1) := by decide +kernel
theorem dX5_growth_72 : decode cX5_growth 72 = .ok (.iaload, 1) := by decide +kernel
theorem dX5_growth_73 : decode cX5_growth 73 = .ok (.goto 9, 3) := by decide +kernel
theorem dX5_growth_76 : decode cX5_growth 76 = .ok (.aload_n 0, 1) := by decide +kernel
theorem dX5_growth_77 : decode cX5_growth 77 = .ok (.getfield 32, 3) := by decide +kernel
theorem dX5_growth_80 : decode cX5_growth 80 = .ok (.iload_n 2, 1) := by decide +kernel
theorem dX5_growth_81 : decode cX5_growth 81 = .ok (.iaload, 1) := by decide +kernel
theorem dX5_growth_82 : decode cX5_growth 82 = .ok (.ireturn, 1) := by decide +kernel
set_option maxRecDepth 20000 in
theorem ggX5_placeOf_X5_missing : GoodIn wsX5_placeOf wsX5_missing := goodIn_r _ [7, 8, 9, 10, 6, 11, 12, 13, 14, 62, 63, 64, 65, 66, 67, 68, 69, 70, 71, 72, 73, 74, 75, 76, 77, 78, 79, 80, 81, 82, 83, 84, 85, 86, 87, 88, 89, 90, 91, 92, 93, 94, 95, 96] (by decide +kernel) (by decide +kernel)
set_option maxRecDepth 20000 in
theorem gX5_placeOf_X5_missing : GoodIn wsX5_placeOf (wsV RX5 162 RX5 yX5_missing wsX5_missing) := goodIn_app (goodIn_of _ (by decide +kernel)) ggX5_placeOf_X5_missing
set_option maxRecDepth 20000 in
theorem ggX5_placeOf_X5_areaIn : GoodIn wsX5_placeOf wsX5_areaIn := goodIn_r _ [18, 19, 20, 21, 6, 22, 23, 24, 25, 62, 63, 64, 65, 66, 67, 68, 69, 70, 71, 72, 73, 74, 75, 76, 77, 78, 79, 80, 81, 82, 83, 84, 85, 86, 87, 88, 89, 90, 91, 92, 93, 94, 95, 96] (by decide +kernel) (by decide +kernel)
set_option maxRecDepth 20000 in
theorem gX5_placeOf_X5_areaIn : GoodIn wsX5_placeOf (wsV RX5 102 RX5 yX5_areaIn wsX5_areaIn) := goodIn_app (goodIn_of _ (by decide +kernel)) ggX5_placeOf_X5_areaIn
set_option maxRecDepth 20000 in
theorem ggX5_placeOf_X5_within : GoodIn wsX5_placeOf wsX5_within := goodIn_r _ [14] (by decide +kernel) (by decide +kernel)
set_option maxRecDepth 20000 in
theorem gX5_placeOf_X5_within : GoodIn wsX5_placeOf (va_wsS RX5 71 yX5_within wsX5_within) := goodIn_app (goodIn_of _ (by decide +kernel)) ggX5_placeOf_X5_within
set_option maxRecDepth 20000 in
theorem ggX5_placeOf_X5_layGrowth : GoodIn wsX5_placeOf wsX5_layGrowth := goodIn_r _ [29, 30, 31, 32, 2, 33, 34, 35, 6, 36, 19, 37, 38, 39, 40, 41, 42, 43, 44, 45, 23, 24, 25, 20, 21, 22, 46, 47, 48, 15, 16, 17, 18, 49, 50, 51, 52, 53, 54, 55, 56, 57, 58, 59, 60, 61, 62, 63, 64, 65, 66, 67, 68, 69, 70, 71, 72, 73, 74, 75, 76, 77, 78, 79, 80, 81, 82, 83, 84, 85, 86, 87, 88, 89, 90, 91, 92, 93, 94, 95, 96] (by decide +kernel) (by decide +kernel)
set_option maxRecDepth 20000 in
theorem gX5_placeOf_X5_layGrowth : GoodIn wsX5_placeOf (wsV RX5 120 RX5 yX5_layGrowth wsX5_layGrowth) := goodIn_app (goodIn_of _ (by decide +kernel)) ggX5_placeOf_X5_layGrowth
theorem dX5_placeOf_0 : decode cX5_placeOf 0 = .ok (.aload_n 0, 1) := by decide +kernel
theorem dX5_placeOf_1 : decode cX5_placeOf 1 = .ok (.aload_n 0, 1) := by decide +kernel
theorem dX5_placeOf_2 : decode cX5_placeOf 2 = .ok (.iload_n 1, 1) := by decide +kernel
theorem dX5_placeOf_3 : decode cX5_placeOf 3 = .ok (.invokevirtual 162, 3) := by decide +kernel
theorem dX5_placeOf_6 : decode cX5_placeOf 6 = .ok (.putfield 59, 3) := by decide +kernel
theorem dX5_placeOf_9 : decode cX5_placeOf 9 = .ok (.aload_n 0, 1) := by decide +kernel
theorem dX5_placeOf_10 : decode cX5_placeOf 10 = .ok (.aload_n 0, 1) := by decide +kernel
theorem dX5_placeOf_11 : decode cX5_placeOf 11 = .ok (.getfield 59, 3) := by decide +kernel
theorem dX5_placeOf_14 : decode cX5_placeOf 14 = .ok (.ifCond .ne 22, 3) := by decide +kernel
theorem dX5_placeOf_17 : decode cX5_placeOf 17 = .ok (.iload_n 2, 1) := by decide +kernel
theorem dX5_placeOf_18 : decode cX5_placeOf 18 = .ok (.iconst 0, 1) := by decide +kernel
theorem dX5_placeOf_19 : decode cX5_placeOf 19 = .ok (.aload_n 0, 1) := by decide +kernel
theorem dX5_placeOf_20 : decode cX5_placeOf 20 = .ok (.iload_n 1, 1) := by decide +kernel
theorem dX5_placeOf_21 : decode cX5_placeOf 21 = .ok (.invokevirtual 102, 3) := by decide +kernel
theorem dX5_placeOf_24 : decode cX5_placeOf 24 = .ok (.iconst 1, 1) := by decide +kernel
theorem dX5_placeOf_25 : decode cX5_placeOf 25 = .ok (.isub, 1) := by decide +kernel
theorem dX5_placeOf_26 : decode cX5_placeOf 26 = .ok (.invokestatic 71, 3) := by decide +kernel
theorem dX5_placeOf_29 : decode cX5_placeOf 29 = .ok (.ifCond .ne 7, 3) := by decide +kernel
theorem dX5_placeOf_32 : decode cX5_placeOf 32 = .ok (.iconst 2, 1) := by decide +kernel
theorem dX5_placeOf_33 : decode cX5_placeOf 33 = .ok (.goto 7, 3) := by decide +kernel
theorem dX5_placeOf_36 : decode cX5_placeOf 36 = .ok (.aload_n 0, 1) := by decide +kernel
theorem dX5_placeOf_37 : decode cX5_placeOf 37 = .ok (.getfield 59, 3) := by decide +kernel
theorem dX5_placeOf_40 : decode cX5_placeOf 40 = .ok (.putfield 59, 3) := by decide +kernel
theorem dX5_placeOf_43 : decode cX5_placeOf 43 = .ok (.aload_n 0, 1) := by decide +kernel
theorem dX5_placeOf_44 : decode cX5_placeOf 44 = .ok (.getfield 59, 3) := by decide +kernel
theorem dX5_placeOf_47 : decode cX5_placeOf 47 = .ok (.ifCond .le 5, 3) := by decide +kernel
theorem dX5_placeOf_50 : decode cX5_placeOf 50 = .ok (.iconst 0, 1) := by decide +kernel
theorem dX5_placeOf_51 : decode cX5_placeOf 51 = .ok (.ireturn, 1) := by decide +kernel
theorem dX5_placeOf_52 : decode cX5_placeOf 52 = .ok (.aload_n 0, 1) := by decide +kernel
theorem dX5_placeOf_53 : decode cX5_placeOf 53 = .ok (.iload_n 1, 1) := by decide +kernel
theorem dX5_placeOf_54 : decode cX5_placeOf 54 = .ok (.invokevirtual 120, 3) := by decide +kernel
theorem dX5_placeOf_57 : decode cX5_placeOf 57 = .ok (.iconst 0, 1) := by decide +kernel
theorem dX5_placeOf_58 : decode cX5_placeOf 58 = .ok (.istore_n 3, 1) := by decide +kernel
theorem dX5_placeOf_59 : decode cX5_placeOf 59 = .ok (.aload_n 0, 1) := by decide +kernel
theorem dX5_placeOf_60 : decode cX5_placeOf 60 = .ok (.getfield 32, 3) := by decide +kernel
theorem dX5_placeOf_63 : decode cX5_placeOf 63 = .ok (.iload_n 3, 1) := by decide +kernel
theorem dX5_placeOf_64 : decode cX5_placeOf 64 = .ok (.iaload, 1) := by decide +kernel
theorem dX5_placeOf_65 : decode cX5_placeOf 65 = .ok (.iload_n 2, 1) := by decide +kernel
theorem dX5_placeOf_66 : decode cX5_placeOf 66 = .ok (.if_icmp .eq 9, 3) := by decide +kernel
theorem dX5_placeOf_69 : decode cX5_placeOf 69 = .ok (.iinc 3 1, 3) := by decide +kernel
theorem dX5_placeOf_72 : decode cX5_placeOf 72 = .ok (.goto (-13), 3) := by decide +kernel
theorem dX5_placeOf_75 : decode cX5_placeOf 75 = .ok (.iload_n 3, 1) := by decide +kernel
theorem dX5_placeOf_76 : decode cX5_placeOf 76 = .ok (.ireturn, 1) := by decide +kernel
set_option maxRecDepth 20000 in
theorem ggX5_layAll_X5_layGrowth : GoodIn wsX5_layAll wsX5_layGrowth := goodIn_r _ [13, 2, 14, 6, 4, 15, 16, 17, 12, 18, 19, 20, 21, 22, 23, 8, 7, 24, 25, 26, 27, 28, 29, 30, 31, 32, 33, 34, 35, 36, 37, 38, 39, 40, 41, 42, 43, 44, 45, 46, 47, 48, 49, 50, 51, 52, 53, 54, 55, 56, 57, 58, 59, 60, 61, 62, 63, 64, 65, 66, 67, 68, 69, 70, 71, 72, 73, 74, 75, 76, 77, 78, 79, 80, 81, 82, 83, 84, 85, 86, 87] (by decide +kernel) (by decide +kernel)
set_option maxRecDepth 20000 in
theorem gX5_layAll_X5_layGrowth : GoodIn wsX5_layAll (wsV RX5 120 RX5 yX5_layGrowth wsX5_layGrowth) := goodIn_app (goodIn_of _ (by decide +kernel)) ggX5_layAll_X5_layGrowth
theorem dX5_layAll_0 : decode cX5_layAll 0 = .ok (.iconst 0, 1) := by decide +kernel
theorem dX5_layAll_1 : decode cX5_layAll 1 = .ok (.istore_n 1, 1) := by decide +kernel
theorem dX5_layAll_2 : decode cX5_layAll 2 = .ok (.iload_n 1, 1) := by decide +kernel
theorem dX5_layAll_3 : decode cX5_layAll 3 = .ok (.iconst 3, 1) := by decide +kernel
theorem dX5_layAll_4 : decode cX5_layAll 4 = .ok (.if_icmp .ge 96, 3) := by decide +kernel
theorem dX5_layAll_7 : decode cX5_layAll 7 = .ok (.aload_n 0, 1) := by decide +kernel
theorem dX5_layAll_8 : decode cX5_layAll 8 = .ok (.getfield 7, 3) := by decide +kernel
theorem dX5_layAll_11 : decode cX5_layAll 11 = .ok (.iload_n 1, 1) := by decide +kernel
theorem dX5_layAll_12 : decode cX5_layAll 12 = .ok (.baload, 1) := by decide +kernel
theorem dX5_layAll_13 : decode cX5_layAll 13 = .ok (.ifCond .eq 81, 3) := by decide +kernel
theorem dX5_layAll_16 : decode cX5_layAll 16 = .ok (.aload_n 0, 1) := by decide +kernel
theorem dX5_layAll_17 : decode cX5_layAll 17 = .ok (.iload_n 1, 1) := by decide +kernel
theorem dX5_layAll_18 : decode cX5_layAll 18 = .ok (.invokevirtual 120, 3) := by decide +kernel
theorem dX5_layAll_21 : decode cX5_layAll 21 = .ok (.iconst 0, 1) := by decide +kernel
theorem dX5_layAll_22 : decode cX5_layAll 22 = .ok (.istore_n 2, 1) := by decide +kernel
theorem dX5_layAll_23 : decode cX5_layAll 23 = .ok (.iload_n 2, 1) := by decide +kernel
theorem dX5_layAll_24 : decode cX5_layAll 24 = .ok (.aload_n 0, 1) := by decide +kernel
theorem dX5_layAll_25 : decode cX5_layAll 25 = .ok (.getfield 113, 3) := by decide +kernel
theorem dX5_layAll_28 : decode cX5_layAll 28 = .ok (.if_icmp .ge 26, 3) := by decide +kernel
theorem dX5_layAll_31 : decode cX5_layAll 31 = .ok (.aload_n 0, 1) := by decide +kernel
theorem dX5_layAll_32 : decode cX5_layAll 32 = .ok (.getfield 41, 3) := by decide +kernel
theorem dX5_layAll_35 : decode cX5_layAll 35 = .ok (.bipush 64, 2) := by decide +kernel
theorem dX5_layAll_37 : decode cX5_layAll 37 = .ok (.iload_n 1, 1) := by decide +kernel
theorem dX5_layAll_38 : decode cX5_layAll 38 = .ok (.imul, 1) := by decide +kernel
theorem dX5_layAll_39 : decode cX5_layAll 39 = .ok (.iload_n 2, 1) := by decide +kernel
theorem dX5_layAll_40 : decode cX5_layAll 40 = .ok (.iadd, 1) := by decide +kernel
theorem dX5_layAll_41 : decode cX5_layAll 41 = .ok (.aload_n 0, 1) := by decide +kernel
theorem dX5_layAll_42 : decode cX5_layAll 42 = .ok (.getfield 32, 3) := by decide +kernel
theorem dX5_layAll_45 : decode cX5_layAll 45 = .ok (.iload_n 2, 1) := by decide +kernel
theorem dX5_layAll_46 : decode cX5_layAll 46 = .ok (.iaload, 1) := by decide +kernel
theorem dX5_layAll_47 : decode cX5_layAll 47 = .ok (.iastore, 1) := by decide +kernel
theorem dX5_layAll_48 : decode cX5_layAll 48 = .ok (.iinc 2 1, 3) := by decide +kernel
theorem dX5_layAll_51 : decode cX5_layAll 51 = .ok (.goto (-28), 3) := by decide +kernel
theorem dX5_layAll_54 : decode cX5_layAll 54 = .ok (.aload_n 0, 1) := by decide +kernel
theorem dX5_layAll_55 : decode cX5_layAll 55 = .ok (.getfield 44, 3) := by decide +kernel
theorem dX5_layAll_58 : decode cX5_layAll 58 = .ok (.iconst 3, 1) := by decide +kernel
theorem dX5_layAll_59 : decode cX5_layAll 59 = .ok (.iload_n 1, 1) := by decide +kernel
theorem dX5_layAll_60 : decode cX5_layAll 60 = .ok (.imul, 1) := by decide +kernel
theorem dX5_layAll_61 : decode cX5_layAll 61 = .ok (.aload_n 0, 1) := by decide +kernel
theorem dX5_layAll_62 : decode cX5_layAll 62 = .ok (.getfield 89, 3) := by decide +kernel
theorem dX5_layAll_65 : decode cX5_layAll 65 = .ok (.iastore, 1) := by decide +kernel
theorem dX5_layAll_66 : decode cX5_layAll 66 = .ok (.aload_n 0, 1) := by decide +kernel
theorem dX5_layAll_67 : decode cX5_layAll 67 = .ok (.getfield 44, 3) := by decide +kernel
theorem dX5_layAll_70 : decode cX5_layAll 70 = .ok (.iconst 3, 1) := by decide +kernel
theorem dX5_layAll_71 : decode cX5_layAll 71 = .ok (.iload_n 1, 1) := by decide +kernel
theorem dX5_layAll_72 : decode cX5_layAll 72 = .ok (.imul, 1) := by decide +kernel
theorem dX5_layAll_73 : decode cX5_layAll 73 = .ok (.iconst 1, 1) := by decide +kernel
theorem dX5_layAll_74 : decode cX5_layAll 74 = .ok (.iadd, 1) := by decide +kernel
theorem dX5_layAll_75 : decode cX5_layAll 75 = .ok (.aload_n 0, 1) := by decide +kernel
theorem dX5_layAll_76 : decode cX5_layAll 76 = .ok (.getfield 92, 3) := by decide +kernel
theorem dX5_layAll_79 : decode cX5_layAll 79 = .ok (.iastore, 1) := by decide +kernel
theorem dX5_layAll_80 : decode cX5_layAll 80 = .ok (.aload_n 0, 1) := by decide +kernel
theorem dX5_layAll_81 : decode cX5_layAll 81 = .ok (.getfield 44, 3) := by decide +kernel
theorem dX5_layAll_84 : decode cX5_layAll 84 = .ok (.iconst 3, 1) := by decide +kernel
theorem dX5_layAll_85 : decode cX5_layAll 85 = .ok (.iload_n 1, 1) := by decide +kernel
theorem dX5_layAll_86 : decode cX5_layAll 86 = .ok (.imul, 1) := by decide +kernel
theorem dX5_layAll_87 : decode cX5_layAll 87 = .ok (.iconst 2, 1) := by decide +kernel
theorem dX5_layAll_88 : decode cX5_layAll 88 = .ok (.iadd, 1) := by decide +kernel
theorem dX5_layAll_89 : decode cX5_layAll 89 = .ok (.aload_n 0, 1) := by decide +kernel
theorem dX5_layAll_90 : decode cX5_layAll 90 = .ok (.getfield 82, 3) := by decide +kernel
theorem dX5_layAll_93 : decode cX5_layAll 93 = .ok (.iastore, 1) := by decide +kernel
theorem dX5_layAll_94 : decode cX5_layAll 94 = .ok (.iinc 1 1, 3) := by decide +kernel
theorem dX5_layAll_97 : decode cX5_layAll 97 = .ok (.goto (-95), 3) := by decide +kernel
theorem dX5_layAll_100 : decode cX5_layAll 100 = .ok (.return_, 1) := by decide +kernel
set_option maxRecDepth 20000 in
theorem ggX5_hasInk_X5_placeAt : GoodIn wsX5_hasInk wsX5_placeAt := goodIn_r _ [11, 4, 2, 3, 12, 13, 10, 14, 15, 16, 17, 18, 19, 20, 21, 22, 23, 24, 25, 26, 27, 28, 29, 30, 31, 32, 33, 34, 35, 36, 37, 38, 39, 40, 41, 42, 43, 44, 45, 46, 47, 48, 49, 50, 51, 52] (by decide +kernel) (by decide +kernel)
set_option maxRecDepth 20000 in
theorem gX5_hasInk_X5_placeAt : GoodIn wsX5_hasInk (wsV RX5 201 RX5 yX5_placeAt wsX5_placeAt) := goodIn_app (goodIn_of _ (by decide +kernel)) ggX5_hasInk_X5_placeAt
theorem dX5_hasInk_0 : decode cX5_hasInk 0 = .ok (.aload_n 0, 1) := by decide +kernel
theorem dX5_hasInk_1 : decode cX5_hasInk 1 = .ok (.aload_n 0, 1) := by decide +kernel
theorem dX5_hasInk_2 : decode cX5_hasInk 2 = .ok (.getfield 44, 3) := by decide +kernel
theorem dX5_hasInk_5 : decode cX5_hasInk 5 = .ok (.iconst 3, 1) := by decide +kernel
theorem dX5_hasInk_6 : decode cX5_hasInk 6 = .ok (.iload_n 1, 1) := by decide +kernel
theorem dX5_hasInk_7 : decode cX5_hasInk 7 = .ok (.imul, 1) := by decide +kernel
theorem dX5_hasInk_8 : decode cX5_hasInk 8 = .ok (.iaload, 1) := by decide +kernel
theorem dX5_hasInk_9 : decode cX5_hasInk 9 = .ok (.putfield 89, 3) := by decide +kernel
theorem dX5_hasInk_12 : decode cX5_hasInk 12 = .ok (.aload_n 0, 1) := by decide +kernel
theorem dX5_hasInk_13 : decode cX5_hasInk 13 = .ok (.aload_n 0, 1) := by decide +kernel
theorem dX5_hasInk_14 : decode cX5_hasInk 14 = .ok (.getfield 44, 3) := by decide +kernel
theorem dX5_hasInk_17 : decode cX5_hasInk 17 = .ok (.iconst 3, 1) := by decide +kernel
theorem dX5_hasInk_18 : decode cX5_hasInk 18 = .ok (.iload_n 1, 1) := by decide +kernel
theorem dX5_hasInk_19 : decode cX5_hasInk 19 = .ok (.imul, 1) := by decide +kernel
theorem dX5_hasInk_20 : decode cX5_hasInk 20 = .ok (.iconst 1, 1) := by decide +kernel
theorem dX5_hasInk_21 : decode cX5_hasInk 21 = .ok (.iadd, 1) := by decide +kernel
theorem dX5_hasInk_22 : decode cX5_hasInk 22 = .ok (.iaload, 1) := by decide +kernel
theorem dX5_hasInk_23 : decode cX5_hasInk 23 = .ok (.putfield 92, 3) := by decide +kernel
theorem dX5_hasInk_26 : decode cX5_hasInk 26 = .ok (.aload_n 0, 1) := by decide +kernel
theorem dX5_hasInk_27 : decode cX5_hasInk 27 = .ok (.aload_n 0, 1) := by decide +kernel
theorem dX5_hasInk_28 : decode cX5_hasInk 28 = .ok (.getfield 44, 3) := by decide +kernel
theorem dX5_hasInk_31 : decode cX5_hasInk 31 = .ok (.iconst 3, 1) := by decide +kernel
theorem dX5_hasInk_32 : decode cX5_hasInk 32 = .ok (.iload_n 1, 1) := by decide +kernel
theorem dX5_hasInk_33 : decode cX5_hasInk 33 = .ok (.imul, 1) := by decide +kernel
theorem dX5_hasInk_34 : decode cX5_hasInk 34 = .ok (.iconst 2, 1) := by decide +kernel
theorem dX5_hasInk_35 : decode cX5_hasInk 35 = .ok (.iadd, 1) := by decide +kernel
theorem dX5_hasInk_36 : decode cX5_hasInk 36 = .ok (.iaload, 1) := by decide +kernel
theorem dX5_hasInk_37 : decode cX5_hasInk 37 = .ok (.putfield 82, 3) := by decide +kernel
theorem dX5_hasInk_40 : decode cX5_hasInk 40 = .ok (.aload_n 0, 1) := by decide +kernel
theorem dX5_hasInk_41 : decode cX5_hasInk 41 = .ok (.getfield 41, 3) := by decide +kernel
theorem dX5_hasInk_44 : decode cX5_hasInk 44 = .ok (.bipush 64, 2) := by decide +kernel
theorem dX5_hasInk_46 : decode cX5_hasInk 46 = .ok (.iload_n 1, 1) := by decide +kernel
theorem dX5_hasInk_47 : decode cX5_hasInk 47 = .ok (.imul, 1) := by decide +kernel
theorem dX5_hasInk_48 : decode cX5_hasInk 48 = .ok (.aload_n 0, 1) := by decide +kernel
theorem dX5_hasInk_49 : decode cX5_hasInk 49 = .ok (.iload_n 2, 1) := by decide +kernel
theorem dX5_hasInk_50 : decode cX5_hasInk 50 = .ok (.iload_n 3, 1) := by decide +kernel
theorem dX5_hasInk_51 : decode cX5_hasInk 51 = .ok (.invokevirtual 201, 3) := by decide +kernel
theorem dX5_hasInk_54 : decode cX5_hasInk 54 = .ok (.iadd, 1) := by decide +kernel
theorem dX5_hasInk_55 : decode cX5_hasInk 55 = .ok (.iaload, 1) := by decide +kernel
theorem dX5_hasInk_56 : decode cX5_hasInk 56 = .ok (.aload_n 0, 1) := by decide +kernel
theorem dX5_hasInk_57 : decode cX5_hasInk 57 = .ok (.getfield 23, 3) := by decide +kernel
theorem dX5_hasInk_60 : decode cX5_hasInk 60 = .ok (.iload_n 1, 1) := by decide +kernel
theorem dX5_hasInk_61 : decode cX5_hasInk 61 = .ok (.iaload, 1) := by decide +kernel
theorem dX5_hasInk_62 : decode cX5_hasInk 62 = .ok (.if_icmp .ge 7, 3) := by decide +kernel
theorem dX5_hasInk_65 : decode cX5_hasInk 65 = .ok (.iconst 1, 1) := by decide +kernel
theorem dX5_hasInk_66 : decode cX5_hasInk 66 = .ok (.goto 4, 3) := by decide +kernel
theorem dX5_hasInk_69 : decode cX5_hasInk 69 = .ok (.iconst 0, 1) := by decide +kernel
theorem dX5_hasInk_70 : decode cX5_hasInk 70 = .ok (.ireturn, 1) := by decide +kernel
set_option maxRecDepth 20000 in
theorem ggX5_inksAt_X5_hasInk : GoodIn wsX5_inksAt wsX5_hasInk := goodIn_r _ [6, 7, 8, 9, 10, 11, 12, 13, 14, 15, 5, 16, 17, 18, 19, 20, 21, 22, 23, 24, 25, 26, 27, 28, 29, 30, 31, 32, 33, 34, 35, 36, 37, 38, 39, 40, 41, 42, 43, 44, 45, 46, 47, 48, 49, 50, 51, 52, 53, 54, 55, 56, 57] (by decide +kernel) (by decide +kernel)
set_option maxRecDepth 20000 in
theorem gX5_inksAt_X5_hasInk : GoodIn wsX5_inksAt (wsV RX5 204 RX5 yX5_hasInk wsX5_hasInk) := goodIn_app (goodIn_of _ (by decide +kernel)) ggX5_inksAt_X5_hasInk
theorem dX5_inksAt_0 : decode cX5_inksAt 0 = .ok (.iconst 0, 1) := by decide +kernel
theorem dX5_inksAt_1 : decode cX5_inksAt 1 = .ok (.istore_n 3, 1) := by decide +kernel
theorem dX5_inksAt_2 : decode cX5_inksAt 2 = .ok (.iconst 0, 1) := by decide +kernel
theorem dX5_inksAt_3 : decode cX5_inksAt 3 = .ok (.istore 4, 2) := by decide +kernel
theorem dX5_inksAt_5 : decode cX5_inksAt 5 = .ok (.iload 4, 2) := by decide +kernel
theorem dX5_inksAt_7 : decode cX5_inksAt 7 = .ok (.iconst 3, 1) := by decide +kernel
theorem dX5_inksAt_8 : decode cX5_inksAt 8 = .ok (.if_icmp .ge 41, 3) := by decide +kernel
theorem dX5_inksAt_11 : decode cX5_inksAt 11 = .ok (.iload_n 3, 1) := by decide +kernel
theorem dX5_inksAt_12 : decode cX5_inksAt 12 = .ok (.aload_n 0, 1) := by decide +kernel
theorem dX5_inksAt_13 : decode cX5_inksAt 13 = .ok (.getfield 7, 3) := by decide +kernel
theorem dX5_inksAt_16 : decode cX5_inksAt 16 = .ok (.iload 4, 2) := by decide +kernel
theorem dX5_inksAt_18 : decode cX5_inksAt 18 = .ok (.baload, 1) := by decide +kernel
theorem dX5_inksAt_19 : decode cX5_inksAt 19 = .ok (.ifCond .eq 21, 3) := by decide +kernel
theorem dX5_inksAt_22 : decode cX5_inksAt 22 = .ok (.aload_n 0, 1) := by decide +kernel
theorem dX5_inksAt_23 : decode cX5_inksAt 23 = .ok (.iload 4, 2) := by decide +kernel
theorem dX5_inksAt_25 : decode cX5_inksAt 25 = .ok (.iload_n 1, 1) := by decide +kernel
theorem dX5_inksAt_26 : decode cX5_inksAt 26 = .ok (.iload_n 2, 1) := by decide +kernel
theorem dX5_inksAt_27 : decode cX5_inksAt 27 = .ok (.invokevirtual 204, 3) := by decide +kernel
theorem dX5_inksAt_30 : decode cX5_inksAt 30 = .ok (.ifCond .eq 10, 3) := by decide +kernel
theorem dX5_inksAt_33 : decode cX5_inksAt 33 = .ok (.iconst 1, 1) := by decide +kernel
theorem dX5_inksAt_34 : decode cX5_inksAt 34 = .ok (.iload 4, 2) := by decide +kernel
theorem dX5_inksAt_36 : decode cX5_inksAt 36 = .ok (.ishl, 1) := by decide +kernel
theorem dX5_inksAt_37 : decode cX5_inksAt 37 = .ok (.goto 4, 3) := by decide +kernel
theorem dX5_inksAt_40 : decode cX5_inksAt 40 = .ok (.iconst 0, 1) := by decide +kernel
theorem dX5_inksAt_41 : decode cX5_inksAt 41 = .ok (.iadd, 1) := by decide +kernel
theorem dX5_inksAt_42 : decode cX5_inksAt 42 = .ok (.istore_n 3, 1) := by decide +kernel
theorem dX5_inksAt_43 : decode cX5_inksAt 43 = .ok (.iinc 4 1, 3) := by decide +kernel
theorem dX5_inksAt_46 : decode cX5_inksAt 46 = .ok (.goto (-41), 3) := by decide +kernel
theorem dX5_inksAt_49 : decode cX5_inksAt 49 = .ok (.iload_n 3, 1) := by decide +kernel
theorem dX5_inksAt_50 : decode cX5_inksAt 50 = .ok (.ireturn, 1) := by decide +kernel
set_option maxRecDepth 20000 in
theorem ggX5_pixel_X5_isPixel : GoodIn wsX5_pixel wsX5_isPixel := goodIn_r _ [5, 6, 7, 4, 8] (by decide +kernel) (by decide +kernel)
set_option maxRecDepth 20000 in
theorem gX5_pixel_X5_isPixel : GoodIn wsX5_pixel (va_wsS RX5 197 yX5_isPixel wsX5_isPixel) := goodIn_app (goodIn_of _ (by decide +kernel)) ggX5_pixel_X5_isPixel
set_option maxRecDepth 20000 in
theorem ggX5_pixel_X5_layAll : GoodIn wsX5_pixel wsX5_layAll := goodIn_r _ [12, 13, 14, 15, 16, 17, 18, 19, 20, 21, 22, 23, 4, 24, 25, 26, 27, 28, 29, 30, 31, 32, 33, 34, 35, 36, 37, 38, 39, 40, 41, 42, 43, 44, 45, 46, 47, 48, 49, 50, 51, 52, 53, 54, 55, 56, 57, 58, 59, 60, 61, 62, 63, 77, 78, 79, 80, 81, 82, 83, 84, 85, 86, 87, 88, 89, 90, 91, 92, 93, 94, 95, 96, 97, 98, 99, 100, 101, 102, 103, 104, 105, 106, 107, 108, 109, 110, 111] (by decide +kernel) (by decide +kernel)
set_option maxRecDepth 20000 in
theorem gX5_pixel_X5_layAll : GoodIn wsX5_pixel (wsV RX5 207 RX5 yX5_layAll wsX5_layAll) := goodIn_app (goodIn_of _ (by decide +kernel)) ggX5_pixel_X5_layAll
set_option maxRecDepth 20000 in
theorem ggX5_pixel_X5_inksAt : GoodIn wsX5_pixel wsX5_inksAt := goodIn_r _ [67, 13, 68, 69, 70, 4, 71, 17, 18, 19, 20, 15, 72, 73, 74, 75, 76, 61, 62, 63, 44, 45, 46, 77, 78, 79, 80, 81, 82, 83, 84, 85, 86, 87, 88, 89, 90, 91, 92, 93, 94, 95, 96, 97, 98, 99, 100, 101, 102, 103, 104, 105, 106, 107, 108, 109, 110, 111] (by decide +kernel) (by decide +kernel)
set_option maxRecDepth 20000 in
theorem gX5_pixel_X5_inksAt : GoodIn wsX5_pixel (wsV RX5 210 RX5 yX5_inksAt wsX5_inksAt) := goodIn_app (goodIn_of _ (by decide +kernel)) ggX5_pixel_X5_inksAt
theorem dX5_pixel_0 : decode cX5_pixel 0 = .ok (.aload_n 0, 1) := by decide +kernel
theorem dX5_pixel_1 : decode cX5_pixel 1 = .ok (.iload_n 1, 1) := by decide +kernel
theorem dX5_pixel_2 : decode cX5_pixel 2 = .ok (.iload_n 2, 1) := by decide +kernel
theorem dX5_pixel_3 : decode cX5_pixel 3 = .ok (.invokestatic 197, 3) := by decide +kernel
theorem dX5_pixel_6 : decode cX5_pixel 6 = .ok (.ifCond .eq 7, 3) := by decide +kernel
theorem dX5_pixel_9 : decode cX5_pixel 9 = .ok (.iconst 0, 1) := by decide +kernel
theorem dX5_pixel_10 : decode cX5_pixel 10 = .ok (.goto 4, 3) := by decide +kernel
theorem dX5_pixel_13 : decode cX5_pixel 13 = .ok (.iconst 1, 1) := by decide +kernel
theorem dX5_pixel_14 : decode cX5_pixel 14 = .ok (.putfield 59, 3) := by decide +kernel
theorem dX5_pixel_17 : decode cX5_pixel 17 = .ok (.aload_n 0, 1) := by decide +kernel
theorem dX5_pixel_18 : decode cX5_pixel 18 = .ok (.getfield 59, 3) := by decide +kernel
theorem dX5_pixel_21 : decode cX5_pixel 21 = .ok (.ifCond .le 5, 3) := by decide +kernel
theorem dX5_pixel_24 : decode cX5_pixel 24 = .ok (.iconst 0, 1) := by decide +kernel
theorem dX5_pixel_25 : decode cX5_pixel 25 = .ok (.ireturn, 1) := by decide +kernel
theorem dX5_pixel_26 : decode cX5_pixel 26 = .ok (.aload_n 0, 1) := by decide +kernel
theorem dX5_pixel_27 : decode cX5_pixel 27 = .ok (.invokevirtual 207, 3) := by decide +kernel
theorem dX5_pixel_30 : decode cX5_pixel 30 = .ok (.aload_n 0, 1) := by decide +kernel
theorem dX5_pixel_31 : decode cX5_pixel 31 = .ok (.iload_n 1, 1) := by decide +kernel
theorem dX5_pixel_32 : decode cX5_pixel 32 = .ok (.iload_n 2, 1) := by decide +kernel
theorem dX5_pixel_33 : decode cX5_pixel 33 = .ok (.invokevirtual 210, 3) := by decide +kernel
theorem dX5_pixel_36 : decode cX5_pixel 36 = .ok (.ireturn, 1) := by decide +kernel
set_option maxRecDepth 20000 in
theorem ggX5_inked_X5_isPixel : GoodIn wsX5_inked wsX5_isPixel := goodIn_r _ [5, 6, 7, 4, 8] (by decide +kernel) (by decide +kernel)
set_option maxRecDepth 20000 in
theorem gX5_inked_X5_isPixel : GoodIn wsX5_inked (va_wsS RX5 197 yX5_isPixel wsX5_isPixel) := goodIn_app (goodIn_of _ (by decide +kernel)) ggX5_inked_X5_isPixel
set_option maxRecDepth 20000 in
theorem ggX5_inked_X5_within : GoodIn wsX5_inked wsX5_within := goodIn_r _ [8] (by decide +kernel) (by decide +kernel)
set_option maxRecDepth 20000 in
theorem gX5_inked_X5_within : GoodIn wsX5_inked (va_wsS RX5 71 yX5_within wsX5_within) := goodIn_app (goodIn_of _ (by decide +kernel)) ggX5_inked_X5_within
set_option maxRecDepth 20000 in
theorem ggX5_inked_X5_wrong : GoodIn wsX5_inked wsX5_wrong := goodIn_r _ [12, 13, 14, 15, 4, 16, 6, 7, 8, 80, 81, 82, 83, 84, 85, 86, 87, 88, 89, 90, 91, 92, 93, 94, 95, 96, 97, 98, 99, 100, 101, 102, 103, 104, 105, 106, 107, 108, 109, 110, 111, 112, 113, 114] (by decide +kernel) (by decide +kernel)
set_option maxRecDepth 20000 in
theorem gX5_inked_X5_wrong : GoodIn wsX5_inked (wsV RX5 174 RX5 yX5_wrong wsX5_wrong) := goodIn_app (goodIn_of _ (by decide +kernel)) ggX5_inked_X5_wrong
set_option maxRecDepth 20000 in
theorem ggX5_inked_X5_layAll : GoodIn wsX5_inked wsX5_layAll := goodIn_r _ [20, 13, 21, 22, 23, 24, 25, 26, 27, 28, 29, 30, 4, 31, 32, 33, 34, 35, 36, 37, 38, 39, 40, 41, 42, 43, 44, 45, 46, 47, 48, 49, 50, 51, 52, 53, 54, 55, 56, 57, 58, 59, 60, 61, 62, 63, 64, 65, 66, 67, 68, 69, 70, 80, 81, 82, 83, 84, 85, 86, 87, 88, 89, 90, 91, 92, 93, 94, 95, 96, 97, 98, 99, 100, 101, 102, 103, 104, 105, 106, 107, 108, 109, 110, 111, 112, 113, 114] (by decide +kernel) (by decide +kernel)
set_option maxRecDepth 20000 in
theorem gX5_inked_X5_layAll : GoodIn wsX5_inked (wsV RX5 207 RX5 yX5_layAll wsX5_layAll) := goodIn_app (goodIn_of _ (by decide +kernel)) ggX5_inked_X5_layAll
set_option maxRecDepth 20000 in
theorem ggX5_inked_X5_hasInk : GoodIn wsX5_inked wsX5_hasInk := goodIn_r _ [74, 24, 25, 26, 27, 22, 75, 76, 77, 78, 4, 79, 68, 69, 70, 51, 52, 53, 80, 81, 82, 83, 84, 85, 86, 87, 88, 89, 90, 91, 92, 93, 94, 95, 96, 97, 98, 99, 100, 101, 102, 103, 104, 105, 106, 107, 108, 109, 110, 111, 112, 113, 114] (by decide +kernel) (by decide +kernel)
set_option maxRecDepth 20000 in
theorem gX5_inked_X5_hasInk : GoodIn wsX5_inked (wsV RX5 204 RX5 yX5_hasInk wsX5_hasInk) := goodIn_app (goodIn_of _ (by decide +kernel)) ggX5_inked_X5_hasInk
theorem dX5_inked_0 : decode cX5_inked 0 = .ok (.aload_n 0, 1) := by decide +kernel
theorem dX5_inked_1 : decode cX5_inked 1 = .ok (.aload_n 0, 1) := by decide +kernel
theorem dX5_inked_2 : decode cX5_inked 2 = .ok (.iload_n 1, 1) := by decide +kernel
theorem dX5_inked_3 : decode cX5_inked 3 = .ok (.iload_n 2, 1) := by decide +kernel
theorem dX5_inked_4 : decode cX5_inked 4 = .ok (.iload_n 3, 1) := by decide +kernel
theorem dX5_inked_5 : decode cX5_inked 5 = .ok (.invokestatic 197, 3) := by decide +kernel
theorem dX5_inked_8 : decode cX5_inked 8 = .ok (.ifCond .eq 29, 3) := by decide +kernel
theorem dX5_inked_11 : decode cX5_inked 11 = .ok (.iload 4, 2) := by decide +kernel
theorem dX5_inked_13 : decode cX5_inked 13 = .ok (.iconst 1, 1) := by decide +kernel
theorem dX5_inked_14 : decode cX5_inked 14 = .ok (.bipush 64, 2) := by decide +kernel
theorem dX5_inked_16 : decode cX5_inked 16 = .ok (.invokestatic 71, 3) := by decide +kernel
theorem dX5_inked_19 : decode cX5_inked 19 = .ok (.ifCond .eq 18, 3) := by decide +kernel
theorem dX5_inked_22 : decode cX5_inked 22 = .ok (.iload 5, 2) := by decide +kernel
theorem dX5_inked_24 : decode cX5_inked 24 = .ok (.iconst 1, 1) := by decide +kernel
theorem dX5_inked_25 : decode cX5_inked 25 = .ok (.bipush 64, 2) := by decide +kernel
theorem dX5_inked_27 : decode cX5_inked 27 = .ok (.invokestatic 71, 3) := by decide +kernel
theorem dX5_inked_30 : decode cX5_inked 30 = .ok (.ifCond .eq 7, 3) := by decide +kernel
theorem dX5_inked_33 : decode cX5_inked 33 = .ok (.iconst 1, 1) := by decide +kernel
theorem dX5_inked_34 : decode cX5_inked 34 = .ok (.goto 4, 3) := by decide +kernel
theorem dX5_inked_37 : decode cX5_inked 37 = .ok (.iconst 0, 1) := by decide +kernel
theorem dX5_inked_38 : decode cX5_inked 38 = .ok (.invokevirtual 174, 3) := by decide +kernel
theorem dX5_inked_41 : decode cX5_inked 41 = .ok (.putfield 59, 3) := by decide +kernel
theorem dX5_inked_44 : decode cX5_inked 44 = .ok (.aload_n 0, 1) := by decide +kernel
theorem dX5_inked_45 : decode cX5_inked 45 = .ok (.getfield 59, 3) := by decide +kernel
theorem dX5_inked_48 : decode cX5_inked 48 = .ok (.ifCond .le 5, 3) := by decide +kernel
theorem dX5_inked_51 : decode cX5_inked 51 = .ok (.iconst 0, 1) := by decide +kernel
theorem dX5_inked_52 : decode cX5_inked 52 = .ok (.ireturn, 1) := by decide +kernel
theorem dX5_inked_53 : decode cX5_inked 53 = .ok (.aload_n 0, 1) := by decide +kernel
theorem dX5_inked_54 : decode cX5_inked 54 = .ok (.invokevirtual 207, 3) := by decide +kernel
theorem dX5_inked_57 : decode cX5_inked 57 = .ok (.iconst 0, 1) := by decide +kernel
theorem dX5_inked_58 : decode cX5_inked 58 = .ok (.istore 6, 2) := by decide +kernel
theorem dX5_inked_60 : decode cX5_inked 60 = .ok (.iconst 0, 1) := by decide +kernel
theorem dX5_inked_61 : decode cX5_inked 61 = .ok (.istore 7, 2) := by decide +kernel
theorem dX5_inked_63 : decode cX5_inked 63 = .ok (.iload 7, 2) := by decide +kernel
theorem dX5_inked_65 : decode cX5_inked 65 = .ok (.iload 4, 2) := by decide +kernel
theorem dX5_inked_67 : decode cX5_inked 67 = .ok (.iload 5, 2) := by decide +kernel
theorem dX5_inked_69 : decode cX5_inked 69 = .ok (.imul, 1) := by decide +kernel
theorem dX5_inked_70 : decode cX5_inked 70 = .ok (.if_icmp .ge 41, 3) := by decide +kernel
theorem dX5_inked_73 : decode cX5_inked 73 = .ok (.iload 6, 2) := by decide +kernel
theorem dX5_inked_75 : decode cX5_inked 75 = .ok (.aload_n 0, 1) := by decide +kernel
theorem dX5_inked_76 : decode cX5_inked 76 = .ok (.iload_n 1, 1) := by decide +kernel
theorem dX5_inked_77 : decode cX5_inked 77 = .ok (.iload_n 2, 1) := by decide +kernel
theorem dX5_inked_78 : decode cX5_inked 78 = .ok (.iload 7, 2) := by decide +kernel
theorem dX5_inked_80 : decode cX5_inked 80 = .ok (.iload 4, 2) := by decide +kernel
theorem dX5_inked_82 : decode cX5_inked 82 = .ok (.irem, 1) := by decide +kernel
theorem dX5_inked_83 : decode cX5_inked 83 = .ok (.iadd, 1) := by decide +kernel
theorem dX5_inked_84 : decode cX5_inked 84 = .ok (.iload_n 3, 1) := by decide +kernel
theorem dX5_inked_85 : decode cX5_inked 85 = .ok (.iload 7, 2) := by decide +kernel
theorem dX5_inked_87 : decode cX5_inked 87 = .ok (.iload 4, 2) := by decide +kernel
theorem dX5_inked_89 : decode cX5_inked 89 = .ok (.idiv, 1) := by decide +kernel
theorem dX5_inked_90 : decode cX5_inked 90 = .ok (.iadd, 1) := by decide +kernel
theorem dX5_inked_91 : decode cX5_inked 91 = .ok (.invokevirtual 204, 3) := by decide +kernel
theorem dX5_inked_94 : decode cX5_inked 94 = .ok (.ifCond .eq 7, 3) := by decide +kernel
theorem dX5_inked_97 : decode cX5_inked 97 = .ok (.iconst 1, 1) := by decide +kernel
theorem dX5_inked_98 : decode cX5_inked 98 = .ok (.goto 4, 3) := by decide +kernel
theorem dX5_inked_101 : decode cX5_inked 101 = .ok (.iconst 0, 1) := by decide +kernel
theorem dX5_inked_102 : decode cX5_inked 102 = .ok (.iadd, 1) := by decide +kernel
theorem dX5_inked_103 : decode cX5_inked 103 = .ok (.istore 6, 2) := by decide +kernel
theorem dX5_inked_105 : decode cX5_inked 105 = .ok (.iinc 7 1, 3) := by decide +kernel
theorem dX5_inked_108 : decode cX5_inked 108 = .ok (.goto (-45), 3) := by decide +kernel
theorem dX5_inked_111 : decode cX5_inked 111 = .ok (.iload 6, 2) := by decide +kernel
theorem dX5_inked_113 : decode cX5_inked 113 = .ok (.ireturn, 1) := by decide +kernel
set_option maxRecDepth 20000 in
theorem ggX5_meet_X5_placeAt : GoodIn wsX5_meet wsX5_placeAt := goodIn_r _ [10, 11, 12, 13, 14, 15, 9, 16, 17, 18, 19, 20, 21, 22, 23, 24, 25, 26, 27, 28, 29, 30, 31, 32, 33, 34, 35, 36, 37, 38, 39, 40, 41, 42, 43, 44, 45, 46, 47, 48, 49, 50, 51, 52, 53, 54] (by decide +kernel) (by decide +kernel)
set_option maxRecDepth 20000 in
theorem gX5_meet_X5_placeAt : GoodIn wsX5_meet (wsV RX5 201 RX5 yX5_placeAt wsX5_placeAt) := goodIn_app (goodIn_of _ (by decide +kernel)) ggX5_meet_X5_placeAt
theorem dX5_meet_0 : decode cX5_meet 0 = .ok (.aload_n 0, 1) := by decide +kernel
theorem dX5_meet_1 : decode cX5_meet 1 = .ok (.iload_n 1, 1) := by decide +kernel
theorem dX5_meet_2 : decode cX5_meet 2 = .ok (.iload_n 2, 1) := by decide +kernel
theorem dX5_meet_3 : decode cX5_meet 3 = .ok (.invokevirtual 201, 3) := by decide +kernel
theorem dX5_meet_6 : decode cX5_meet 6 = .ok (.istore_n 3, 1) := by decide +kernel
theorem dX5_meet_7 : decode cX5_meet 7 = .ok (.aload_n 0, 1) := by decide +kernel
theorem dX5_meet_8 : decode cX5_meet 8 = .ok (.getfield 47, 3) := by decide +kernel
theorem dX5_meet_11 : decode cX5_meet 11 = .ok (.iload_n 3, 1) := by decide +kernel
theorem dX5_meet_12 : decode cX5_meet 12 = .ok (.iconst 1, 1) := by decide +kernel
theorem dX5_meet_13 : decode cX5_meet 13 = .ok (.bastore, 1) := by decide +kernel
theorem dX5_meet_14 : decode cX5_meet 14 = .ok (.aload_n 0, 1) := by decide +kernel
theorem dX5_meet_15 : decode cX5_meet 15 = .ok (.getfield 50, 3) := by decide +kernel
theorem dX5_meet_18 : decode cX5_meet 18 = .ok (.iload_n 3, 1) := by decide +kernel
theorem dX5_meet_19 : decode cX5_meet 19 = .ok (.iload_n 1, 1) := by decide +kernel
theorem dX5_meet_20 : decode cX5_meet 20 = .ok (.iastore, 1) := by decide +kernel
theorem dX5_meet_21 : decode cX5_meet 21 = .ok (.aload_n 0, 1) := by decide +kernel
theorem dX5_meet_22 : decode cX5_meet 22 = .ok (.getfield 53, 3) := by decide +kernel
theorem dX5_meet_25 : decode cX5_meet 25 = .ok (.iload_n 3, 1) := by decide +kernel
theorem dX5_meet_26 : decode cX5_meet 26 = .ok (.iload_n 2, 1) := by decide +kernel
theorem dX5_meet_27 : decode cX5_meet 27 = .ok (.iastore, 1) := by decide +kernel
theorem dX5_meet_28 : decode cX5_meet 28 = .ok (.aload_n 0, 1) := by decide +kernel
theorem dX5_meet_29 : decode cX5_meet 29 = .ok (.getfield 56, 3) := by decide +kernel
theorem dX5_meet_32 : decode cX5_meet 32 = .ok (.aload_n 0, 1) := by decide +kernel
theorem dX5_meet_33 : decode cX5_meet 33 = .ok (.getfield 213, 3) := by decide +kernel
theorem dX5_meet_36 : decode cX5_meet 36 = .ok (.iload_n 3, 1) := by decide +kernel
theorem dX5_meet_37 : decode cX5_meet 37 = .ok (.iastore, 1) := by decide +kernel
theorem dX5_meet_38 : decode cX5_meet 38 = .ok (.aload_n 0, 1) := by decide +kernel
theorem dX5_meet_39 : decode cX5_meet 39 = .ok (.dup, 1) := by decide +kernel
theorem dX5_meet_40 : decode cX5_meet 40 = .ok (.getfield 213, 3) := by decide +kernel
theorem dX5_meet_43 : decode cX5_meet 43 = .ok (.iconst 1, 1) := by decide +kernel
theorem dX5_meet_44 : decode cX5_meet 44 = .ok (.iadd, 1) := by decide +kernel
theorem dX5_meet_45 : decode cX5_meet 45 = .ok (.putfield 213, 3) := by decide +kernel
theorem dX5_meet_48 : decode cX5_meet 48 = .ok (.return_, 1) := by decide +kernel
theorem dX5_shift_0 : decode cX5_shift 0 = .ok (.iload_n 1, 1) := by decide +kernel
theorem dX5_shift_1 : decode cX5_shift 1 = .ok (.ifCond .ne 11, 3) := by decide +kernel
theorem dX5_shift_4 : decode cX5_shift 4 = .ok (.iload_n 2, 1) := by decide +kernel
theorem dX5_shift_5 : decode cX5_shift 5 = .ok (.ifCond .ne 7, 3) := by decide +kernel
theorem dX5_shift_8 : decode cX5_shift 8 = .ok (.iconst 1, 1) := by decide +kernel
theorem dX5_shift_9 : decode cX5_shift 9 = .ok (.goto 4, 3) := by decide +kernel
theorem dX5_shift_12 : decode cX5_shift 12 = .ok (.iconst 0, 1) := by decide +kernel
theorem dX5_shift_13 : decode cX5_shift 13 = .ok (.istore_n 3, 1) := by decide +kernel
theorem dX5_shift_14 : decode cX5_shift 14 = .ok (.iload_n 3, 1) := by decide +kernel
theorem dX5_shift_15 : decode cX5_shift 15 = .ok (.ifCond .ne 28, 3) := by decide +kernel
theorem dX5_shift_18 : decode cX5_shift 18 = .ok (.aload_n 0, 1) := by decide +kernel
theorem dX5_shift_19 : decode cX5_shift 19 = .ok (.getfield 216, 3) := by decide +kernel
theorem dX5_shift_22 : decode cX5_shift 22 = .ok (.ifCond .ne 21, 3) := by decide +kernel
theorem dX5_shift_25 : decode cX5_shift 25 = .ok (.aload_n 0, 1) := by decide +kernel
theorem dX5_shift_26 : decode cX5_shift 26 = .ok (.iload_n 1, 1) := by decide +kernel
theorem dX5_shift_27 : decode cX5_shift 27 = .ok (.putfield 219, 3) := by decide +kernel
theorem dX5_shift_30 : decode cX5_shift 30 = .ok (.aload_n 0, 1) := by decide +kernel
theorem dX5_shift_31 : decode cX5_shift 31 = .ok (.iload_n 2, 1) := by decide +kernel
theorem dX5_shift_32 : decode cX5_shift 32 = .ok (.putfield 222, 3) := by decide +kernel
theorem dX5_shift_35 : decode cX5_shift 35 = .ok (.aload_n 0, 1) := by decide +kernel
theorem dX5_shift_36 : decode cX5_shift 36 = .ok (.iconst 1, 1) := by decide +kernel
theorem dX5_shift_37 : decode cX5_shift 37 = .ok (.putfield 216, 3) := by decide +kernel
theorem dX5_shift_40 : decode cX5_shift 40 = .ok (.goto 27, 3) := by decide +kernel
theorem dX5_shift_43 : decode cX5_shift 43 = .ok (.iload_n 3, 1) := by decide +kernel
theorem dX5_shift_44 : decode cX5_shift 44 = .ok (.ifCond .ne 23, 3) := by decide +kernel
theorem dX5_shift_47 : decode cX5_shift 47 = .ok (.aload_n 0, 1) := by decide +kernel
theorem dX5_shift_48 : decode cX5_shift 48 = .ok (.getfield 219, 3) := by decide +kernel
theorem dX5_shift_51 : decode cX5_shift 51 = .ok (.iload_n 2, 1) := by decide +kernel
theorem dX5_shift_52 : decode cX5_shift 52 = .ok (.imul, 1) := by decide +kernel
theorem dX5_shift_53 : decode cX5_shift 53 = .ok (.aload_n 0, 1) := by decide +kernel
theorem dX5_shift_54 : decode cX5_shift 54 = .ok (.getfield 222, 3) := by decide +kernel
theorem dX5_shift_57 : decode cX5_shift 57 = .ok (.iload_n 1, 1) := by decide +kernel
theorem dX5_shift_58 : decode cX5_shift 58 = .ok (.imul, 1) := by decide +kernel
theorem dX5_shift_59 : decode cX5_shift 59 = .ok (.if_icmp .eq 8, 3) := by decide +kernel
theorem dX5_shift_62 : decode cX5_shift 62 = .ok (.aload_n 0, 1) := by decide +kernel
theorem dX5_shift_63 : decode cX5_shift 63 = .ok (.iconst 2, 1) := by decide +kernel
theorem dX5_shift_64 : decode cX5_shift 64 = .ok (.putfield 216, 3) := by decide +kernel
theorem dX5_shift_67 : decode cX5_shift 67 = .ok (.return_, 1) := by decide +kernel
set_option maxRecDepth 20000 in
theorem ggX5_follow_X5_meet : GoodIn wsX5_follow wsX5_meet := goodIn_r _ [13, 8, 4, 6, 5, 1, 14, 15, 16, 12, 17, 18, 3, 19, 20, 21, 22, 23, 24, 25, 32, 33, 34, 35, 36, 37, 38, 39, 40, 41, 42, 43, 44, 45, 46, 47, 48, 49, 50, 51, 52, 53, 54, 55, 56, 57, 58, 59, 60, 61, 62, 63, 64, 65, 66] (by decide +kernel) (by decide +kernel)
set_option maxRecDepth 20000 in
theorem gX5_follow_X5_meet : GoodIn wsX5_follow (wsV RX5 225 RX5 yX5_meet wsX5_meet) := goodIn_app (goodIn_of _ (by decide +kernel)) ggX5_follow_X5_meet
set_option maxRecDepth 20000 in
theorem ggX5_follow_X5_placeAt : GoodIn wsX5_follow wsX5_placeAt := goodIn_r _ [17, 18, 3, 19, 20, 21, 12, 22, 23, 24, 25, 32, 33, 34, 35, 36, 37, 38, 39, 40, 41, 42, 43, 44, 45, 46, 47, 48, 49, 50, 51, 52, 53, 54, 55, 56, 57, 58, 59, 60, 61, 62, 63, 64, 65, 66] (by decide +kernel) (by decide +kernel)
set_option maxRecDepth 20000 in
theorem gX5_follow_X5_placeAt : GoodIn wsX5_follow (wsV RX5 201 RX5 yX5_placeAt wsX5_placeAt) := goodIn_app (goodIn_of _ (by decide +kernel)) ggX5_follow_X5_placeAt
set_option maxRecDepth 20000 in
theorem ggX5_follow_X5_shift : GoodIn wsX5_follow wsX5_shift := goodIn_r _ [29, 2, 30, 31, 32, 33, 34, 35, 36, 37, 38, 39, 40, 41, 42, 43, 44, 45, 46, 47, 48, 49, 50, 51, 52, 53, 54, 55, 56, 57, 58, 59, 60, 61, 62, 63, 64, 65, 66] (by decide +kernel) (by decide +kernel)
set_option maxRecDepth 20000 in
theorem gX5_follow_X5_shift : GoodIn wsX5_follow (wsV RX5 228 RX5 yX5_shift wsX5_shift) := goodIn_app (goodIn_of _ (by decide +kernel)) ggX5_follow_X5_shift
theorem dX5_follow_0 : decode cX5_follow 0 = .ok (.aload_n 0, 1) := by decide +kernel
theorem dX5_follow_1 : decode cX5_follow 1 = .ok (.iconst 0, 1) := by decide +kernel
theorem dX5_follow_2 : decode cX5_follow 2 = .ok (.putfield 213, 3) := by decide +kernel
theorem dX5_follow_5 : decode cX5_follow 5 = .ok (.aload_n 0, 1) := by decide +kernel
theorem dX5_follow_6 : decode cX5_follow 6 = .ok (.iconst 0, 1) := by decide +kernel
theorem dX5_follow_7 : decode cX5_follow 7 = .ok (.putfield 216, 3) := by decide +kernel
theorem dX5_follow_10 : decode cX5_follow 10 = .ok (.aload_n 0, 1) := by decide +kernel
theorem dX5_follow_11 : decode cX5_follow 11 = .ok (.iload_n 1, 1) := by decide +kernel
theorem dX5_follow_12 : decode cX5_follow 12 = .ok (.aload_n 0, 1) := by decide +kernel
theorem dX5_follow_13 : decode cX5_follow 13 = .ok (.getfield 89, 3) := by decide +kernel
theorem dX5_follow_16 : decode cX5_follow 16 = .ok (.irem, 1) := by decide +kernel
theorem dX5_follow_17 : decode cX5_follow 17 = .ok (.iload_n 1, 1) := by decide +kernel
theorem dX5_follow_18 : decode cX5_follow 18 = .ok (.aload_n 0, 1) := by decide +kernel
theorem dX5_follow_19 : decode cX5_follow 19 = .ok (.getfield 89, 3) := by decide +kernel
theorem dX5_follow_22 : decode cX5_follow 22 = .ok (.idiv, 1) := by decide +kernel
theorem dX5_follow_23 : decode cX5_follow 23 = .ok (.invokevirtual 225, 3) := by decide +kernel
theorem dX5_follow_26 : decode cX5_follow 26 = .ok (.iconst 0, 1) := by decide +kernel
theorem dX5_follow_27 : decode cX5_follow 27 = .ok (.istore_n 3, 1) := by decide +kernel
theorem dX5_follow_28 : decode cX5_follow 28 = .ok (.iload_n 3, 1) := by decide +kernel
theorem dX5_follow_29 : decode cX5_follow 29 = .ok (.aload_n 0, 1) := by decide +kernel
theorem dX5_follow_30 : decode cX5_follow 30 = .ok (.getfield 213, 3) := by decide +kernel
theorem dX5_follow_33 : decode cX5_follow 33 = .ok (.if_icmp .ge 178, 3) := by decide +kernel
theorem dX5_follow_36 : decode cX5_follow 36 = .ok (.aload_n 0, 1) := by decide +kernel
theorem dX5_follow_37 : decode cX5_follow 37 = .ok (.getfield 50, 3) := by decide +kernel
theorem dX5_follow_40 : decode cX5_follow 40 = .ok (.aload_n 0, 1) := by decide +kernel
theorem dX5_follow_41 : decode cX5_follow 41 = .ok (.getfield 56, 3) := by decide +kernel
theorem dX5_follow_44 : decode cX5_follow 44 = .ok (.iload_n 3, 1) := by decide +kernel
theorem dX5_follow_45 : decode cX5_follow 45 = .ok (.iaload, 1) := by decide +kernel
theorem dX5_follow_46 : decode cX5_follow 46 = .ok (.iaload, 1) := by decide +kernel
theorem dX5_follow_47 : decode cX5_follow 47 = .ok (.istore 4, 2) := by decide +kernel
theorem dX5_follow_49 : decode cX5_follow 49 = .ok (.aload_n 0, 1) := by decide +kernel
theorem dX5_follow_50 : decode cX5_follow 50 = .ok (.getfield 53, 3) := by decide +kernel
theorem dX5_follow_53 : decode cX5_follow 53 = .ok (.aload_n 0, 1) := by decide +kernel
theorem dX5_follow_54 : decode cX5_follow 54 = .ok (.getfield 56, 3) := by decide +kernel
theorem dX5_follow_57 : decode cX5_follow 57 = .ok (.iload_n 3, 1) := by decide +kernel
theorem dX5_follow_58 : decode cX5_follow 58 = .ok (.iaload, 1) := by decide +kernel
theorem dX5_follow_59 : decode cX5_follow 59 = .ok (.iaload, 1) := by decide +kernel
theorem dX5_follow_60 : decode cX5_follow 60 = .ok (.istore 5, 2) := by decide +kernel
theorem dX5_follow_62 : decode cX5_follow 62 = .ok (.iconst 0, 1) := by decide +kernel
theorem dX5_follow_63 : decode cX5_follow 63 = .ok (.istore 6, 2) := by decide +kernel
theorem dX5_follow_65 : decode cX5_follow 65 = .ok (.iload 6, 2) := by decide +kernel
theorem dX5_follow_67 : decode cX5_follow 67 = .ok (.iconst 4, 1) := by decide +kernel
theorem dX5_follow_68 : decode cX5_follow 68 = .ok (.if_icmp .ge 137, 3) := by decide +kernel
theorem dX5_follow_71 : decode cX5_follow 71 = .ok (.iload 4, 2) := by decide +kernel
theorem dX5_follow_73 : decode cX5_follow 73 = .ok (.iload 6, 2) := by decide +kernel
theorem dX5_follow_75 : decode cX5_follow 75 = .ok (.ifCond .ne 7, 3) := by decide +kernel
theorem dX5_follow_78 : decode cX5_follow 78 = .ok (.iconst 1, 1) := by decide +kernel
theorem dX5_follow_79 : decode cX5_follow 79 = .ok (.goto 14, 3) := by decide +kernel
theorem dX5_follow_82 : decode cX5_follow 82 = .ok (.iload 6, 2) := by decide +kernel
theorem dX5_follow_84 : decode cX5_follow 84 = .ok (.iconst 1, 1) := by decide +kernel
theorem dX5_follow_85 : decode cX5_follow 85 = .ok (.if_icmp .ne 7, 3) := by decide +kernel
theorem dX5_follow_88 : decode cX5_follow 88 = .ok (.iconst (-1), 1) := by decide +kernel
theorem dX5_follow_89 : decode cX5_follow 89 = .ok (.goto 4, 3) := by decide +kernel
theorem dX5_follow_92 : decode cX5_follow 92 = .ok (.iconst 0, 1) := by decide +kernel
theorem dX5_follow_93 : decode cX5_follow 93 = .ok (.iadd, 1) := by decide +kernel
theorem dX5_follow_94 : decode cX5_follow 94 = .ok (.istore 7, 2) := by decide +kernel
theorem dX5_follow_96 : decode cX5_follow 96 = .ok (.iload 5, 2) := by decide +kernel
theorem dX5_follow_98 : decode cX5_follow 98 = .ok (.iload 6, 2) := by decide +kernel
theorem dX5_follow_100 : decode cX5_follow 100 = .ok (.iconst 2, 1) := by decide +kernel
theorem dX5_follow_101 : decode cX5_follow 101 = .ok (.if_icmp .ne 7, 3) := by decide +kernel
theorem dX5_follow_104 : decode cX5_follow 104 = .ok (.iconst 1, 1) := by decide +kernel
theorem dX5_follow_105 : decode cX5_follow 105 = .ok (.goto 14, 3) := by decide +kernel
theorem dX5_follow_108 : decode cX5_follow 108 = .ok (.iload 6, 2) := by decide +kernel
theorem dX5_follow_110 : decode cX5_follow 110 = .ok (.iconst 3, 1) := by decide +kernel
theorem dX5_follow_111 : decode cX5_follow 111 = .ok (.if_icmp .ne 7, 3) := by decide +kernel
theorem dX5_follow_114 : decode cX5_follow 114 = .ok (.iconst (-1), 1) := by decide +kernel
theorem dX5_follow_115 : decode cX5_follow 115 = .ok (.goto 4, 3) := by decide +kernel
theorem dX5_follow_118 : decode cX5_follow 118 = .ok (.iconst 0, 1) := by decide +kernel
theorem dX5_follow_119 : decode cX5_follow 119 = .ok (.iadd, 1) := by decide +kernel
theorem dX5_follow_120 : decode cX5_follow 120 = .ok (.istore 8, 2) := by decide +kernel
theorem dX5_follow_122 : decode cX5_follow 122 = .ok (.aload_n 0, 1) := by decide +kernel
theorem dX5_follow_123 : decode cX5_follow 123 = .ok (.iload 7, 2) := by decide +kernel
theorem dX5_follow_125 : decode cX5_follow 125 = .ok (.iload 8, 2) := by decide +kernel
theorem dX5_follow_127 : decode cX5_follow 127 = .ok (.invokevirtual 201, 3) := by decide +kernel
theorem dX5_follow_130 : decode cX5_follow 130 = .ok (.istore 9, 2) := by decide +kernel
theorem dX5_follow_132 : decode cX5_follow 132 = .ok (.aload_n 0, 1) := by decide +kernel
theorem dX5_follow_133 : decode cX5_follow 133 = .ok (.getfield 32, 3) := by decide +kernel
theorem dX5_follow_136 : decode cX5_follow 136 = .ok (.iload 9, 2) := by decide +kernel
theorem dX5_follow_138 : decode cX5_follow 138 = .ok (.iaload, 1) := by decide +kernel
theorem dX5_follow_139 : decode cX5_follow 139 = .ok (.iload_n 2, 1) := by decide +kernel
theorem dX5_follow_140 : decode cX5_follow 140 = .ok (.if_icmp .ge 40, 3) := by decide +kernel
theorem dX5_follow_143 : decode cX5_follow 143 = .ok (.aload_n 0, 1) := by decide +kernel
theorem dX5_follow_144 : decode cX5_follow 144 = .ok (.getfield 47, 3) := by decide +kernel
theorem dX5_follow_147 : decode cX5_follow 147 = .ok (.iload 9, 2) := by decide +kernel
theorem dX5_follow_149 : decode cX5_follow 149 = .ok (.baload, 1) := by decide +kernel
theorem dX5_follow_150 : decode cX5_follow 150 = .ok (.ifCond .eq 30, 3) := by decide +kernel
theorem dX5_follow_153 : decode cX5_follow 153 = .ok (.aload_n 0, 1) := by decide +kernel
theorem dX5_follow_154 : decode cX5_follow 154 = .ok (.iload 7, 2) := by decide +kernel
theorem dX5_follow_156 : decode cX5_follow 156 = .ok (.aload_n 0, 1) := by decide +kernel
theorem dX5_follow_157 : decode cX5_follow 157 = .ok (.getfield 50, 3) := by decide +kernel
theorem dX5_follow_160 : decode cX5_follow 160 = .ok (.iload 9, 2) := by decide +kernel
theorem dX5_follow_162 : decode cX5_follow 162 = .ok (.iaload, 1) := by decide +kernel
theorem dX5_follow_163 : decode cX5_follow 163 = .ok (.isub, 1) := by decide +kernel
theorem dX5_follow_164 : decode cX5_follow 164 = .ok (.iload 8, 2) := by decide +kernel
theorem dX5_follow_166 : decode cX5_follow 166 = .ok (.aload_n 0, 1) := by decide +kernel
theorem dX5_follow_167 : decode cX5_follow 167 = .ok (.getfield 53, 3) := by decide +kernel
theorem dX5_follow_170 : decode cX5_follow 170 = .ok (.iload 9, 2) := by decide +kernel
theorem dX5_follow_172 : decode cX5_follow 172 = .ok (.iaload, 1) := by decide +kernel
theorem dX5_follow_173 : decode cX5_follow 173 = .ok (.isub, 1) := by decide +kernel
theorem dX5_follow_174 : decode cX5_follow 174 = .ok (.invokevirtual 228, 3) := by decide +kernel
theorem dX5_follow_177 : decode cX5_follow 177 = .ok (.goto 22, 3) := by decide +kernel
theorem dX5_follow_180 : decode cX5_follow 180 = .ok (.aload_n 0, 1) := by decide +kernel
theorem dX5_follow_181 : decode cX5_follow 181 = .ok (.getfield 32, 3) := by decide +kernel
theorem dX5_follow_184 : decode cX5_follow 184 = .ok (.iload 9, 2) := by decide +kernel
theorem dX5_follow_186 : decode cX5_follow 186 = .ok (.iaload, 1) := by decide +kernel
theorem dX5_follow_187 : decode cX5_follow 187 = .ok (.iload_n 2, 1) := by decide +kernel
theorem dX5_follow_188 : decode cX5_follow 188 = .ok (.if_icmp .ge 11, 3) := by decide +kernel
theorem dX5_follow_191 : decode cX5_follow 191 = .ok (.aload_n 0, 1) := by decide +kernel
theorem dX5_follow_192 : decode cX5_follow 192 = .ok (.iload 7, 2) := by decide +kernel
theorem dX5_follow_194 : decode cX5_follow 194 = .ok (.iload 8, 2) := by decide +kernel
theorem dX5_follow_196 : decode cX5_follow 196 = .ok (.invokevirtual 225, 3) := by decide +kernel
theorem dX5_follow_199 : decode cX5_follow 199 = .ok (.iinc 6 1, 3) := by decide +kernel
theorem dX5_follow_202 : decode cX5_follow 202 = .ok (.goto (-137), 3) := by decide +kernel
theorem dX5_follow_205 : decode cX5_follow 205 = .ok (.iinc 3 1, 3) := by decide +kernel
theorem dX5_follow_208 : decode cX5_follow 208 = .ok (.goto (-180), 3) := by decide +kernel
theorem dX5_follow_211 : decode cX5_follow 211 = .ok (.aload_n 0, 1) := by decide +kernel
theorem dX5_follow_212 : decode cX5_follow 212 = .ok (.getfield 216, 3) := by decide +kernel
theorem dX5_follow_215 : decode cX5_follow 215 = .ok (.ireturn, 1) := by decide +kernel
set_option maxRecDepth 20000 in
theorem ggX5_layDots_X5_follow : GoodIn wsX5_layDots wsX5_follow := goodIn_r _ [10, 11, 12, 13, 14, 15, 16, 5, 4, 17, 18, 19, 9, 20, 21, 22, 23, 24, 25, 26, 27, 28, 29, 30, 31, 32, 33, 34, 35, 36, 37, 38, 39, 40, 41, 42, 43, 44, 45, 46, 47, 48, 49, 50, 51, 52, 53, 54, 55, 56, 57, 58, 59, 60, 61, 62, 63, 64, 65, 66, 67, 68, 69, 70, 71, 72, 73] (by decide +kernel) (by decide +kernel)
set_option maxRecDepth 20000 in
theorem gX5_layDots_X5_follow : GoodIn wsX5_layDots (wsV RX5 237 RX5 yX5_follow wsX5_follow) := goodIn_app (goodIn_of _ (by decide +kernel)) ggX5_layDots_X5_follow
theorem dX5_layDots_0 : decode cX5_layDots 0 = .ok (.aload_n 0, 1) := by decide +kernel
theorem dX5_layDots_1 : decode cX5_layDots 1 = .ok (.iconst 0, 1) := by decide +kernel
theorem dX5_layDots_2 : decode cX5_layDots 2 = .ok (.putfield 231, 3) := by decide +kernel
theorem dX5_layDots_5 : decode cX5_layDots 5 = .ok (.aload_n 0, 1) := by decide +kernel
theorem dX5_layDots_6 : decode cX5_layDots 6 = .ok (.iconst 0, 1) := by decide +kernel
theorem dX5_layDots_7 : decode cX5_layDots 7 = .ok (.putfield 234, 3) := by decide +kernel
theorem dX5_layDots_10 : decode cX5_layDots 10 = .ok (.iconst 0, 1) := by decide +kernel
theorem dX5_layDots_11 : decode cX5_layDots 11 = .ok (.istore_n 2, 1) := by decide +kernel
theorem dX5_layDots_12 : decode cX5_layDots 12 = .ok (.iload_n 2, 1) := by decide +kernel
theorem dX5_layDots_13 : decode cX5_layDots 13 = .ok (.aload_n 0, 1) := by decide +kernel
theorem dX5_layDots_14 : decode cX5_layDots 14 = .ok (.getfield 113, 3) := by decide +kernel
theorem dX5_layDots_17 : decode cX5_layDots 17 = .ok (.if_icmp .ge 16, 3) := by decide +kernel
theorem dX5_layDots_20 : decode cX5_layDots 20 = .ok (.aload_n 0, 1) := by decide +kernel
theorem dX5_layDots_21 : decode cX5_layDots 21 = .ok (.getfield 47, 3) := by decide +kernel
theorem dX5_layDots_24 : decode cX5_layDots 24 = .ok (.iload_n 2, 1) := by decide +kernel
theorem dX5_layDots_25 : decode cX5_layDots 25 = .ok (.iconst 0, 1) := by decide +kernel
theorem dX5_layDots_26 : decode cX5_layDots 26 = .ok (.bastore, 1) := by decide +kernel
theorem dX5_layDots_27 : decode cX5_layDots 27 = .ok (.iinc 2 1, 3) := by decide +kernel
theorem dX5_layDots_30 : decode cX5_layDots 30 = .ok (.goto (-18), 3) := by decide +kernel
theorem dX5_layDots_33 : decode cX5_layDots 33 = .ok (.iconst 0, 1) := by decide +kernel
theorem dX5_layDots_34 : decode cX5_layDots 34 = .ok (.istore_n 2, 1) := by decide +kernel
theorem dX5_layDots_35 : decode cX5_layDots 35 = .ok (.iload_n 2, 1) := by decide +kernel
theorem dX5_layDots_36 : decode cX5_layDots 36 = .ok (.aload_n 0, 1) := by decide +kernel
theorem dX5_layDots_37 : decode cX5_layDots 37 = .ok (.getfield 113, 3) := by decide +kernel
theorem dX5_layDots_40 : decode cX5_layDots 40 = .ok (.if_icmp .ge 65, 3) := by decide +kernel
theorem dX5_layDots_43 : decode cX5_layDots 43 = .ok (.aload_n 0, 1) := by decide +kernel
theorem dX5_layDots_44 : decode cX5_layDots 44 = .ok (.getfield 32, 3) := by decide +kernel
theorem dX5_layDots_47 : decode cX5_layDots 47 = .ok (.iload_n 2, 1) := by decide +kernel
theorem dX5_layDots_48 : decode cX5_layDots 48 = .ok (.iaload, 1) := by decide +kernel
theorem dX5_layDots_49 : decode cX5_layDots 49 = .ok (.iload_n 1, 1) := by decide +kernel
theorem dX5_layDots_50 : decode cX5_layDots 50 = .ok (.if_icmp .ge 49, 3) := by decide +kernel
theorem dX5_layDots_53 : decode cX5_layDots 53 = .ok (.aload_n 0, 1) := by decide +kernel
theorem dX5_layDots_54 : decode cX5_layDots 54 = .ok (.getfield 47, 3) := by decide +kernel
theorem dX5_layDots_57 : decode cX5_layDots 57 = .ok (.iload_n 2, 1) := by decide +kernel
theorem dX5_layDots_58 : decode cX5_layDots 58 = .ok (.baload, 1) := by decide +kernel
theorem dX5_layDots_59 : decode cX5_layDots 59 = .ok (.ifCond .ne 40, 3) := by decide +kernel
theorem dX5_layDots_62 : decode cX5_layDots 62 = .ok (.aload_n 0, 1) := by decide +kernel
theorem dX5_layDots_63 : decode cX5_layDots 63 = .ok (.iload_n 2, 1) := by decide +kernel
theorem dX5_layDots_64 : decode cX5_layDots 64 = .ok (.iload_n 1, 1) := by decide +kernel
theorem dX5_layDots_65 : decode cX5_layDots 65 = .ok (.invokevirtual 237, 3) := by decide +kernel
theorem dX5_layDots_68 : decode cX5_layDots 68 = .ok (.istore_n 3, 1) := by decide +kernel
theorem dX5_layDots_69 : decode cX5_layDots 69 = .ok (.aload_n 0, 1) := by decide +kernel
theorem dX5_layDots_70 : decode cX5_layDots 70 = .ok (.iload_n 3, 1) := by decide +kernel
theorem dX5_layDots_71 : decode cX5_layDots 71 = .ok (.aload_n 0, 1) := by decide +kernel
theorem dX5_layDots_72 : decode cX5_layDots 72 = .ok (.getfield 234, 3) := by decide +kernel
theorem dX5_layDots_75 : decode cX5_layDots 75 = .ok (.if_icmp .le 7, 3) := by decide +kernel
theorem dX5_layDots_78 : decode cX5_layDots 78 = .ok (.iload_n 3, 1) := by decide +kernel
theorem dX5_layDots_79 : decode cX5_layDots 79 = .ok (.goto 7, 3) := by decide +kernel
theorem dX5_layDots_82 : decode cX5_layDots 82 = .ok (.aload_n 0, 1) := by decide +kernel
theorem dX5_layDots_83 : decode cX5_layDots 83 = .ok (.getfield 234, 3) := by decide +kernel
theorem dX5_layDots_86 : decode cX5_layDots 86 = .ok (.putfield 234, 3) := by decide +kernel
theorem dX5_layDots_89 : decode cX5_layDots 89 = .ok (.aload_n 0, 1) := by decide +kernel
theorem dX5_layDots_90 : decode cX5_layDots 90 = .ok (.dup, 1) := by decide +kernel
theorem dX5_layDots_91 : decode cX5_layDots 91 = .ok (.getfield 231, 3) := by decide +kernel
theorem dX5_layDots_94 : decode cX5_layDots 94 = .ok (.iconst 1, 1) := by decide +kernel
theorem dX5_layDots_95 : decode cX5_layDots 95 = .ok (.iadd, 1) := by decide +kernel
theorem dX5_layDots_96 : decode cX5_layDots 96 = .ok (.putfield 231, 3) := by decide +kernel
theorem dX5_layDots_99 : decode cX5_layDots 99 = .ok (.iinc 2 1, 3) := by decide +kernel
theorem dX5_layDots_102 : decode cX5_layDots 102 = .ok (.goto (-67), 3) := by decide +kernel
theorem dX5_layDots_105 : decode cX5_layDots 105 = .ok (.return_, 1) := by decide +kernel
set_option maxRecDepth 20000 in
theorem ggX5_steppedWrong_X5_missing : GoodIn wsX5_steppedWrong wsX5_missing := goodIn_r _ [5, 6, 7, 8, 4, 9, 10, 11, 12, 24, 25, 26, 27, 28, 29, 30, 31, 32, 33, 34, 35, 36, 37, 38, 39, 40, 41, 42, 43, 44, 45, 46, 47, 48, 49, 50, 51, 52, 53, 54, 55, 56, 57, 58] (by decide +kernel) (by decide +kernel)
set_option maxRecDepth 20000 in
theorem gX5_steppedWrong_X5_missing : GoodIn wsX5_steppedWrong (wsV RX5 162 RX5 yX5_missing wsX5_missing) := goodIn_app (goodIn_of _ (by decide +kernel)) ggX5_steppedWrong_X5_missing
set_option maxRecDepth 20000 in
theorem ggX5_steppedWrong_X5_areaIn : GoodIn wsX5_steppedWrong wsX5_areaIn := goodIn_r _ [16, 17, 18, 19, 4, 20, 21, 22, 23, 24, 25, 26, 27, 28, 29, 30, 31, 32, 33, 34, 35, 36, 37, 38, 39, 40, 41, 42, 43, 44, 45, 46, 47, 48, 49, 50, 51, 52, 53, 54, 55, 56, 57, 58] (by decide +kernel) (by decide +kernel)
set_option maxRecDepth 20000 in
theorem gX5_steppedWrong_X5_areaIn : GoodIn wsX5_steppedWrong (wsV RX5 102 RX5 yX5_areaIn wsX5_areaIn) := goodIn_app (goodIn_of _ (by decide +kernel)) ggX5_steppedWrong_X5_areaIn
set_option maxRecDepth 20000 in
theorem ggX5_steppedWrong_X5_within : GoodIn wsX5_steppedWrong wsX5_within := goodIn_r _ [12] (by decide +kernel) (by decide +kernel)
set_option maxRecDepth 20000 in
theorem gX5_steppedWrong_X5_within : GoodIn wsX5_steppedWrong (va_wsS RX5 71 yX5_within wsX5_within) := goodIn_app (goodIn_of _ (by decide +kernel)) ggX5_steppedWrong_X5_within
theorem dX5_steppedWrong_0 : decode cX5_steppedWrong 0 = .ok (.aload_n 0, 1) := by decide +kernel
theorem dX5_steppedWrong_1 : decode cX5_steppedWrong 1 = .ok (.iload_n 1, 1) := by decide +kernel
theorem dX5_steppedWrong_2 : decode cX5_steppedWrong 2 = .ok (.invokevirtual 162, 3) := by decide +kernel
theorem dX5_steppedWrong_5 : decode cX5_steppedWrong 5 = .ok (.istore_n 3, 1) := by decide +kernel
theorem dX5_steppedWrong_6 : decode cX5_steppedWrong 6 = .ok (.iload_n 3, 1) := by decide +kernel
theorem dX5_steppedWrong_7 : decode cX5_steppedWrong 7 = .ok (.ifCond .le 7, 3) := by decide +kernel
theorem dX5_steppedWrong_10 : decode cX5_steppedWrong 10 = .ok (.iload_n 3, 1) := by decide +kernel
theorem dX5_steppedWrong_11 : decode cX5_steppedWrong 11 = .ok (.goto 21, 3) := by decide +kernel
theorem dX5_steppedWrong_14 : decode cX5_steppedWrong 14 = .ok (.iload_n 2, 1) := by decide +kernel
theorem dX5_steppedWrong_15 : decode cX5_steppedWrong 15 = .ok (.iconst 0, 1) := by decide +kernel
theorem dX5_steppedWrong_16 : decode cX5_steppedWrong 16 = .ok (.aload_n 0, 1) := by decide +kernel
theorem dX5_steppedWrong_17 : decode cX5_steppedWrong 17 = .ok (.iload_n 1, 1) := by decide +kernel
theorem dX5_steppedWrong_18 : decode cX5_steppedWrong 18 = .ok (.invokevirtual 102, 3) := by decide +kernel
theorem dX5_steppedWrong_21 : decode cX5_steppedWrong 21 = .ok (.invokestatic 71, 3) := by decide +kernel
theorem dX5_steppedWrong_24 : decode cX5_steppedWrong 24 = .ok (.ifCond .eq 7, 3) := by decide +kernel
theorem dX5_steppedWrong_27 : decode cX5_steppedWrong 27 = .ok (.iconst 0, 1) := by decide +kernel
theorem dX5_steppedWrong_28 : decode cX5_steppedWrong 28 = .ok (.goto 4, 3) := by decide +kernel
theorem dX5_steppedWrong_31 : decode cX5_steppedWrong 31 = .ok (.iconst 3, 1) := by decide +kernel
theorem dX5_steppedWrong_32 : decode cX5_steppedWrong 32 = .ok (.ireturn, 1) := by decide +kernel
set_option maxRecDepth 20000 in
theorem ggX5_dots_X5_steppedWrong : GoodIn wsX5_dots wsX5_steppedWrong := goodIn_r _ [7, 8, 9, 10, 6, 11, 12, 13, 14, 15, 16, 17, 18, 19, 20, 21, 22, 23, 24, 25, 26, 27, 28, 29, 96, 97, 98, 99, 100, 101, 102, 103, 104, 105, 106, 107, 108, 109, 110, 111, 112, 113, 114, 115, 116, 117, 118, 119, 120, 121, 122, 123, 124, 125, 126, 127, 128, 129, 130] (by decide +kernel) (by decide +kernel)
set_option maxRecDepth 20000 in
theorem gX5_dots_X5_steppedWrong : GoodIn wsX5_dots (wsV RX5 240 RX5 yX5_steppedWrong wsX5_steppedWrong) := goodIn_app (goodIn_of _ (by decide +kernel)) ggX5_dots_X5_steppedWrong
set_option maxRecDepth 20000 in
theorem ggX5_dots_X5_layGrowth : GoodIn wsX5_dots wsX5_layGrowth := goodIn_r _ [33, 34, 35, 36, 37, 38, 39, 40, 6, 41, 23, 42, 43, 44, 45, 46, 47, 48, 49, 50, 27, 28, 29, 24, 25, 26, 51, 52, 53, 19, 20, 21, 22, 54, 55, 56, 57, 58, 59, 60, 61, 62, 63, 64, 65, 66, 96, 97, 98, 99, 100, 101, 102, 103, 104, 105, 106, 107, 108, 109, 110, 111, 112, 113, 114, 115, 116, 117, 118, 119, 120, 121, 122, 123, 124, 125, 126, 127, 128, 129, 130] (by decide +kernel) (by decide +kernel)
set_option maxRecDepth 20000 in
theorem gX5_dots_X5_layGrowth : GoodIn wsX5_dots (wsV RX5 120 RX5 yX5_layGrowth wsX5_layGrowth) := goodIn_app (goodIn_of _ (by decide +kernel)) ggX5_dots_X5_layGrowth
set_option maxRecDepth 20000 in
theorem ggX5_dots_X5_layDots : GoodIn wsX5_dots wsX5_layDots := goodIn_r _ [70, 2, 71, 34, 72, 37, 73, 74, 75, 6, 76, 77, 78, 36, 79, 80, 81, 82, 83, 84, 85, 86, 87, 88, 89, 46, 47, 64, 65, 66, 51, 52, 53, 90, 91, 92, 93, 94, 95, 96, 97, 98, 99, 100, 101, 102, 103, 104, 105, 106, 107, 108, 109, 110, 111, 112, 113, 114, 115, 116, 117, 118, 119, 120, 121, 122, 123, 124, 125, 126, 127, 128, 129, 130] (by decide +kernel) (by decide +kernel)
set_option maxRecDepth 20000 in
theorem gX5_dots_X5_layDots : GoodIn wsX5_dots (wsV RX5 243 RX5 yX5_layDots wsX5_layDots) := goodIn_app (goodIn_of _ (by decide +kernel)) ggX5_dots_X5_layDots
theorem dX5_dots_0 : decode cX5_dots 0 = .ok (.aload_n 0, 1) := by decide +kernel
theorem dX5_dots_1 : decode cX5_dots 1 = .ok (.aload_n 0, 1) := by decide +kernel
theorem dX5_dots_2 : decode cX5_dots 2 = .ok (.iload_n 1, 1) := by decide +kernel
theorem dX5_dots_3 : decode cX5_dots 3 = .ok (.iload_n 2, 1) := by decide +kernel
theorem dX5_dots_4 : decode cX5_dots 4 = .ok (.invokevirtual 240, 3) := by decide +kernel
theorem dX5_dots_7 : decode cX5_dots 7 = .ok (.putfield 59, 3) := by decide +kernel
theorem dX5_dots_10 : decode cX5_dots 10 = .ok (.aload_n 0, 1) := by decide +kernel
theorem dX5_dots_11 : decode cX5_dots 11 = .ok (.getfield 59, 3) := by decide +kernel
theorem dX5_dots_14 : decode cX5_dots 14 = .ok (.ifCond .le 5, 3) := by decide +kernel
theorem dX5_dots_17 : decode cX5_dots 17 = .ok (.iconst 0, 1) := by decide +kernel
theorem dX5_dots_18 : decode cX5_dots 18 = .ok (.ireturn, 1) := by decide +kernel
theorem dX5_dots_19 : decode cX5_dots 19 = .ok (.aload_n 0, 1) := by decide +kernel
theorem dX5_dots_20 : decode cX5_dots 20 = .ok (.iload_n 1, 1) := by decide +kernel
theorem dX5_dots_21 : decode cX5_dots 21 = .ok (.invokevirtual 120, 3) := by decide +kernel
theorem dX5_dots_24 : decode cX5_dots 24 = .ok (.aload_n 0, 1) := by decide +kernel
theorem dX5_dots_25 : decode cX5_dots 25 = .ok (.iload_n 2, 1) := by decide +kernel
theorem dX5_dots_26 : decode cX5_dots 26 = .ok (.invokevirtual 243, 3) := by decide +kernel
theorem dX5_dots_29 : decode cX5_dots 29 = .ok (.aload_n 0, 1) := by decide +kernel
theorem dX5_dots_30 : decode cX5_dots 30 = .ok (.getfield 231, 3) := by decide +kernel
theorem dX5_dots_33 : decode cX5_dots 33 = .ok (.ireturn, 1) := by decide +kernel
set_option maxRecDepth 20000 in
theorem ggX5_joined_X5_steppedWrong : GoodIn wsX5_joined wsX5_steppedWrong := goodIn_r _ [7, 8, 9, 10, 6, 11, 12, 13, 14, 15, 16, 17, 18, 19, 20, 21, 22, 23, 24, 25, 26, 27, 28, 29, 96, 97, 98, 99, 100, 101, 102, 103, 104, 105, 106, 107, 108, 109, 110, 111, 112, 113, 114, 115, 116, 117, 118, 119, 120, 121, 122, 123, 124, 125, 126, 127, 128, 129, 130] (by decide +kernel) (by decide +kernel)
set_option maxRecDepth 20000 in
theorem gX5_joined_X5_steppedWrong : GoodIn wsX5_joined (wsV RX5 240 RX5 yX5_steppedWrong wsX5_steppedWrong) := goodIn_app (goodIn_of _ (by decide +kernel)) ggX5_joined_X5_steppedWrong
set_option maxRecDepth 20000 in
theorem ggX5_joined_X5_layGrowth : GoodIn wsX5_joined wsX5_layGrowth := goodIn_r _ [33, 34, 35, 36, 37, 38, 39, 40, 6, 41, 23, 42, 43, 44, 45, 46, 47, 48, 49, 50, 27, 28, 29, 24, 25, 26, 51, 52, 53, 19, 20, 21, 22, 54, 55, 56, 57, 58, 59, 60, 61, 62, 63, 64, 65, 66, 96, 97, 98, 99, 100, 101, 102, 103, 104, 105, 106, 107, 108, 109, 110, 111, 112, 113, 114, 115, 116, 117, 118, 119, 120, 121, 122, 123, 124, 125, 126, 127, 128, 129, 130] (by decide +kernel) (by decide +kernel)
set_option maxRecDepth 20000 in
theorem gX5_joined_X5_layGrowth : GoodIn wsX5_joined (wsV RX5 120 RX5 yX5_layGrowth wsX5_layGrowth) := goodIn_app (goodIn_of _ (by decide +kernel)) ggX5_joined_X5_layGrowth
set_option maxRecDepth 20000 in
theorem ggX5_joined_X5_layDots : GoodIn wsX5_joined wsX5_layDots := goodIn_r _ [70, 71, 2, 34, 72, 37, 73, 74, 75, 6, 76, 77, 78, 36, 79, 80, 81, 82, 83, 84, 85, 86, 87, 88, 89, 46, 47, 64, 65, 66, 51, 52, 53, 90, 91, 92, 93, 94, 95, 96, 97, 98, 99, 100, 101, 102, 103, 104, 105, 106, 107, 108, 109, 110, 111, 112, 113, 114, 115, 116, 117, 118, 119, 120, 121, 122, 123, 124, 125, 126, 127, 128, 129, 130] (by decide +kernel) (by decide +kernel)
set_option maxRecDepth 20000 in
theorem gX5_joined_X5_layDots : GoodIn wsX5_joined (wsV RX5 243 RX5 yX5_layDots wsX5_layDots) := goodIn_app (goodIn_of _ (by decide +kernel)) ggX5_joined_X5_layDots
theorem dX5_joined_0 : decode cX5_joined 0 = .ok (.aload_n 0, 1) := by decide +kernel
theorem dX5_joined_1 : decode cX5_joined 1 = .ok (.aload_n 0, 1) := by decide +kernel
theorem dX5_joined_2 : decode cX5_joined 2 = .ok (.iload_n 1, 1) := by decide +kernel
theorem dX5_joined_3 : decode cX5_joined 3 = .ok (.iload_n 2, 1) := by decide +kernel
theorem dX5_joined_4 : decode cX5_joined 4 = .ok (.invokevirtual 240, 3) := by decide +kernel
theorem dX5_joined_7 : decode cX5_joined 7 = .ok (.putfield 59, 3) := by decide +kernel
theorem dX5_joined_10 : decode cX5_joined 10 = .ok (.aload_n 0, 1) := by decide +kernel
theorem dX5_joined_11 : decode cX5_joined 11 = .ok (.getfield 59, 3) := by decide +kernel
theorem dX5_joined_14 : decode cX5_joined 14 = .ok (.ifCond .le 5, 3) := by decide +kernel
theorem dX5_joined_17 : decode cX5_joined 17 = .ok (.iconst 0, 1) := by decide +kernel
theorem dX5_joined_18 : decode cX5_joined 18 = .ok (.ireturn, 1) := by decide +kernel
theorem dX5_joined_19 : decode cX5_joined 19 = .ok (.aload_n 0, 1) := by decide +kernel
theorem dX5_joined_20 : decode cX5_joined 20 = .ok (.iload_n 1, 1) := by decide +kernel
theorem dX5_joined_21 : decode cX5_joined 21 = .ok (.invokevirtual 120, 3) := by decide +kernel
theorem dX5_joined_24 : decode cX5_joined 24 = .ok (.aload_n 0, 1) := by decide +kernel
theorem dX5_joined_25 : decode cX5_joined 25 = .ok (.iload_n 2, 1) := by decide +kernel
theorem dX5_joined_26 : decode cX5_joined 26 = .ok (.invokevirtual 243, 3) := by decide +kernel
theorem dX5_joined_29 : decode cX5_joined 29 = .ok (.aload_n 0, 1) := by decide +kernel
theorem dX5_joined_30 : decode cX5_joined 30 = .ok (.getfield 234, 3) := by decide +kernel
theorem dX5_joined_33 : decode cX5_joined 33 = .ok (.ireturn, 1) := by decide +kernel
set_option maxRecDepth 20000 in
theorem ggX5_firstJoined_X5_within : GoodIn wsX5_firstJoined wsX5_within := goodIn_r _ [6] (by decide +kernel) (by decide +kernel)
set_option maxRecDepth 20000 in
theorem gX5_firstJoined_X5_within : GoodIn wsX5_firstJoined (va_wsS RX5 71 yX5_within wsX5_within) := goodIn_app (goodIn_of _ (by decide +kernel)) ggX5_firstJoined_X5_within
set_option maxRecDepth 20000 in
theorem ggX5_firstJoined_X5_wrong : GoodIn wsX5_firstJoined wsX5_wrong := goodIn_r _ [10, 11, 12, 13, 5, 14, 3, 4, 6, 92, 93, 94, 95, 96, 97, 98, 99, 100, 101, 102, 103, 104, 105, 106, 107, 108, 109, 110, 111, 112, 113, 114, 115, 116, 117, 118, 119, 120, 121, 122, 123, 124, 125, 126] (by decide +kernel) (by decide +kernel)
set_option maxRecDepth 20000 in
theorem gX5_firstJoined_X5_wrong : GoodIn wsX5_firstJoined (wsV RX5 174 RX5 yX5_wrong wsX5_wrong) := goodIn_app (goodIn_of _ (by decide +kernel)) ggX5_firstJoined_X5_wrong
set_option maxRecDepth 20000 in
theorem ggX5_firstJoined_X5_layGrowth : GoodIn wsX5_firstJoined wsX5_layGrowth := goodIn_r _ [18, 19, 20, 21, 22, 23, 24, 25, 5, 26, 27, 28, 29, 30, 31, 32, 33, 34, 35, 36, 37, 38, 39, 40, 41, 42, 43, 44, 45, 46, 47, 48, 49, 50, 51, 52, 53, 54, 55, 56, 57, 58, 59, 60, 61, 62, 92, 93, 94, 95, 96, 97, 98, 99, 100, 101, 102, 103, 104, 105, 106, 107, 108, 109, 110, 111, 112, 113, 114, 115, 116, 117, 118, 119, 120, 121, 122, 123, 124, 125, 126] (by decide +kernel) (by decide +kernel)
set_option maxRecDepth 20000 in
theorem gX5_firstJoined_X5_layGrowth : GoodIn wsX5_firstJoined (wsV RX5 120 RX5 yX5_layGrowth wsX5_layGrowth) := goodIn_app (goodIn_of _ (by decide +kernel)) ggX5_firstJoined_X5_layGrowth
set_option maxRecDepth 20000 in
theorem ggX5_firstJoined_X5_layDots : GoodIn wsX5_firstJoined wsX5_layDots := goodIn_r _ [66, 67, 2, 19, 68, 22, 69, 70, 71, 5, 72, 73, 74, 21, 75, 76, 77, 78, 79, 80, 81, 82, 83, 84, 85, 32, 33, 60, 61, 62, 43, 44, 45, 86, 87, 88, 89, 90, 91, 92, 93, 94, 95, 96, 97, 98, 99, 100, 101, 102, 103, 104, 105, 106, 107, 108, 109, 110, 111, 112, 113, 114, 115, 116, 117, 118, 119, 120, 121, 122, 123, 124, 125, 126] (by decide +kernel) (by decide +kernel)
set_option maxRecDepth 20000 in
theorem gX5_firstJoined_X5_layDots : GoodIn wsX5_firstJoined (wsV RX5 243 RX5 yX5_layDots wsX5_layDots) := goodIn_app (goodIn_of _ (by decide +kernel)) ggX5_firstJoined_X5_layDots
theorem dX5_firstJoined_0 : decode cX5_firstJoined 0 = .ok (.aload_n 0, 1) := by decide +kernel
theorem dX5_firstJoined_1 : decode cX5_firstJoined 1 = .ok (.aload_n 0, 1) := by decide +kernel
theorem dX5_firstJoined_2 : decode cX5_firstJoined 2 = .ok (.iload_n 1, 1) := by decide +kernel
theorem dX5_firstJoined_3 : decode cX5_firstJoined 3 = .ok (.iload_n 2, 1) := by decide +kernel
theorem dX5_firstJoined_4 : decode cX5_firstJoined 4 = .ok (.iconst 1, 1) := by decide +kernel
theorem dX5_firstJoined_5 : decode cX5_firstJoined 5 = .ok (.iconst 2, 1) := by decide +kernel
theorem dX5_firstJoined_6 : decode cX5_firstJoined 6 = .ok (.invokestatic 71, 3) := by decide +kernel
theorem dX5_firstJoined_9 : decode cX5_firstJoined 9 = .ok (.invokevirtual 174, 3) := by decide +kernel
theorem dX5_firstJoined_12 : decode cX5_firstJoined 12 = .ok (.putfield 59, 3) := by decide +kernel
theorem dX5_firstJoined_15 : decode cX5_firstJoined 15 = .ok (.aload_n 0, 1) := by decide +kernel
theorem dX5_firstJoined_16 : decode cX5_firstJoined 16 = .ok (.getfield 59, 3) := by decide +kernel
theorem dX5_firstJoined_19 : decode cX5_firstJoined 19 = .ok (.ifCond .le 5, 3) := by decide +kernel
theorem dX5_firstJoined_22 : decode cX5_firstJoined 22 = .ok (.iconst 0, 1) := by decide +kernel
theorem dX5_firstJoined_23 : decode cX5_firstJoined 23 = .ok (.ireturn, 1) := by decide +kernel
theorem dX5_firstJoined_24 : decode cX5_firstJoined 24 = .ok (.aload_n 0, 1) := by decide +kernel
theorem dX5_firstJoined_25 : decode cX5_firstJoined 25 = .ok (.iload_n 1, 1) := by decide +kernel
theorem dX5_firstJoined_26 : decode cX5_firstJoined 26 = .ok (.invokevirtual 120, 3) := by decide +kernel
theorem dX5_firstJoined_29 : decode cX5_firstJoined 29 = .ok (.iconst 0, 1) := by decide +kernel
theorem dX5_firstJoined_30 : decode cX5_firstJoined 30 = .ok (.istore_n 3, 1) := by decide +kernel
theorem dX5_firstJoined_31 : decode cX5_firstJoined 31 = .ok (.aload_n 0, 1) := by decide +kernel
theorem dX5_firstJoined_32 : decode cX5_firstJoined 32 = .ok (.iconst 0, 1) := by decide +kernel
theorem dX5_firstJoined_33 : decode cX5_firstJoined 33 = .ok (.invokevirtual 243, 3) := by decide +kernel
theorem dX5_firstJoined_36 : decode cX5_firstJoined 36 = .ok (.aload_n 0, 1) := by decide +kernel
theorem dX5_firstJoined_37 : decode cX5_firstJoined 37 = .ok (.getfield 234, 3) := by decide +kernel
theorem dX5_firstJoined_40 : decode cX5_firstJoined 40 = .ok (.iload_n 2, 1) := by decide +kernel
theorem dX5_firstJoined_41 : decode cX5_firstJoined 41 = .ok (.if_icmp .ge 14, 3) := by decide +kernel
theorem dX5_firstJoined_44 : decode cX5_firstJoined 44 = .ok (.iinc 3 1, 3) := by decide +kernel
theorem dX5_firstJoined_47 : decode cX5_firstJoined 47 = .ok (.aload_n 0, 1) := by decide +kernel
theorem dX5_firstJoined_48 : decode cX5_firstJoined 48 = .ok (.iload_n 3, 1) := by decide +kernel
theorem dX5_firstJoined_49 : decode cX5_firstJoined 49 = .ok (.invokevirtual 243, 3) := by decide +kernel
theorem dX5_firstJoined_52 : decode cX5_firstJoined 52 = .ok (.goto (-16), 3) := by decide +kernel
theorem dX5_firstJoined_55 : decode cX5_firstJoined 55 = .ok (.iload_n 3, 1) := by decide +kernel
theorem dX5_firstJoined_56 : decode cX5_firstJoined 56 = .ok (.ireturn, 1) := by decide +kernel
set_option maxRecDepth 20000 in
theorem ggX5_strengthOf_X5_placeAt : GoodIn wsX5_strengthOf wsX5_placeAt := goodIn_r _ [9, 10, 2, 11, 12, 13, 8, 14, 15, 16, 17, 18, 19, 20, 21, 22, 23, 24, 25, 26, 27, 28, 29, 30, 31, 32, 33, 34, 35, 36, 37, 38, 39, 40, 41, 42, 43, 44, 45, 46, 47, 48, 49, 50, 51, 52] (by decide +kernel) (by decide +kernel)
set_option maxRecDepth 20000 in
theorem gX5_strengthOf_X5_placeAt : GoodIn wsX5_strengthOf (wsV RX5 201 RX5 yX5_placeAt wsX5_placeAt) := goodIn_app (goodIn_of _ (by decide +kernel)) ggX5_strengthOf_X5_placeAt
theorem dX5_strengthOf_0 : decode cX5_strengthOf 0 = .ok (.iconst 0, 1) := by decide +kernel
theorem dX5_strengthOf_1 : decode cX5_strengthOf 1 = .ok (.istore_n 2, 1) := by decide +kernel
theorem dX5_strengthOf_2 : decode cX5_strengthOf 2 = .ok (.iconst 0, 1) := by decide +kernel
theorem dX5_strengthOf_3 : decode cX5_strengthOf 3 = .ok (.istore_n 3, 1) := by decide +kernel
theorem dX5_strengthOf_4 : decode cX5_strengthOf 4 = .ok (.iload_n 3, 1) := by decide +kernel
theorem dX5_strengthOf_5 : decode cX5_strengthOf 5 = .ok (.aload_n 0, 1) := by decide +kernel
theorem dX5_strengthOf_6 : decode cX5_strengthOf 6 = .ok (.getfield 113, 3) := by decide +kernel
theorem dX5_strengthOf_9 : decode cX5_strengthOf 9 = .ok (.if_icmp .ge 163, 3) := by decide +kernel
theorem dX5_strengthOf_12 : decode cX5_strengthOf 12 = .ok (.iload_n 3, 1) := by decide +kernel
theorem dX5_strengthOf_13 : decode cX5_strengthOf 13 = .ok (.aload_n 0, 1) := by decide +kernel
theorem dX5_strengthOf_14 : decode cX5_strengthOf 14 = .ok (.getfield 89, 3) := by decide +kernel
theorem dX5_strengthOf_17 : decode cX5_strengthOf 17 = .ok (.irem, 1) := by decide +kernel
theorem dX5_strengthOf_18 : decode cX5_strengthOf 18 = .ok (.istore 4, 2) := by decide +kernel
theorem dX5_strengthOf_20 : decode cX5_strengthOf 20 = .ok (.iload_n 3, 1) := by decide +kernel
theorem dX5_strengthOf_21 : decode cX5_strengthOf 21 = .ok (.aload_n 0, 1) := by decide +kernel
theorem dX5_strengthOf_22 : decode cX5_strengthOf 22 = .ok (.getfield 89, 3) := by decide +kernel
theorem dX5_strengthOf_25 : decode cX5_strengthOf 25 = .ok (.idiv, 1) := by decide +kernel
theorem dX5_strengthOf_26 : decode cX5_strengthOf 26 = .ok (.istore 5, 2) := by decide +kernel
theorem dX5_strengthOf_28 : decode cX5_strengthOf 28 = .ok (.iconst 0, 1) := by decide +kernel
theorem dX5_strengthOf_29 : decode cX5_strengthOf 29 = .ok (.istore 6, 2) := by decide +kernel
theorem dX5_strengthOf_31 : decode cX5_strengthOf 31 = .ok (.iconst 0, 1) := by decide +kernel
theorem dX5_strengthOf_32 : decode cX5_strengthOf 32 = .ok (.istore 7, 2) := by decide +kernel
theorem dX5_strengthOf_34 : decode cX5_strengthOf 34 = .ok (.iload 7, 2) := by decide +kernel
theorem dX5_strengthOf_36 : decode cX5_strengthOf 36 = .ok (.iconst 4, 1) := by decide +kernel
theorem dX5_strengthOf_37 : decode cX5_strengthOf 37 = .ok (.if_icmp .ge 83, 3) := by decide +kernel
theorem dX5_strengthOf_40 : decode cX5_strengthOf 40 = .ok (.aload_n 0, 1) := by decide +kernel
theorem dX5_strengthOf_41 : decode cX5_strengthOf 41 = .ok (.iload 4, 2) := by decide +kernel
theorem dX5_strengthOf_43 : decode cX5_strengthOf 43 = .ok (.iload 7, 2) := by decide +kernel
theorem dX5_strengthOf_45 : decode cX5_strengthOf 45 = .ok (.ifCond .ne 7, 3) := by decide +kernel
theorem dX5_strengthOf_48 : decode cX5_strengthOf 48 = .ok (.iconst 1, 1) := by decide +kernel
theorem dX5_strengthOf_49 : decode cX5_strengthOf 49 = .ok (.goto 14, 3) := by decide +kernel
theorem dX5_strengthOf_52 : decode cX5_strengthOf 52 = .ok (.iload 7, 2) := by decide +kernel
theorem dX5_strengthOf_54 : decode cX5_strengthOf 54 = .ok (.iconst 1, 1) := by decide +kernel
theorem dX5_strengthOf_55 : decode cX5_strengthOf 55 = .ok (.if_icmp .ne 7, 3) := by decide +kernel
theorem dX5_strengthOf_58 : decode cX5_strengthOf 58 = .ok (.iconst (-1), 1) := by decide +kernel
theorem dX5_strengthOf_59 : decode cX5_strengthOf 59 = .ok (.goto 4, 3) := by decide +kernel
theorem dX5_strengthOf_62 : decode cX5_strengthOf 62 = .ok (.iconst 0, 1) := by decide +kernel
theorem dX5_strengthOf_63 : decode cX5_strengthOf 63 = .ok (.iadd, 1) := by decide +kernel
theorem dX5_strengthOf_64 : decode cX5_strengthOf 64 = .ok (.iload 5, 2) := by decide +kernel
theorem dX5_strengthOf_66 : decode cX5_strengthOf 66 = .ok (.iload 7, 2) := by decide +kernel
theorem dX5_strengthOf_68 : decode cX5_strengthOf 68 = .ok (.iconst 2, 1) := by decide +kernel
theorem dX5_strengthOf_69 : decode cX5_strengthOf 69 = .ok (.if_icmp .ne 7, 3) := by decide +kernel
theorem dX5_strengthOf_72 : decode cX5_strengthOf 72 = .ok (.iconst 1, 1) := by decide +kernel
theorem dX5_strengthOf_73 : decode cX5_strengthOf 73 = .ok (.goto 14, 3) := by decide +kernel
theorem dX5_strengthOf_76 : decode cX5_strengthOf 76 = .ok (.iload 7, 2) := by decide +kernel
theorem dX5_strengthOf_78 : decode cX5_strengthOf 78 = .ok (.iconst 3, 1) := by decide +kernel
theorem dX5_strengthOf_79 : decode cX5_strengthOf 79 = .ok (.if_icmp .ne 7, 3) := by decide +kernel
theorem dX5_strengthOf_82 : decode cX5_strengthOf 82 = .ok (.iconst (-1), 1) := by decide +kernel
theorem dX5_strengthOf_83 : decode cX5_strengthOf 83 = .ok (.goto 4, 3) := by decide +kernel
theorem dX5_strengthOf_86 : decode cX5_strengthOf 86 = .ok (.iconst 0, 1) := by decide +kernel
theorem dX5_strengthOf_87 : decode cX5_strengthOf 87 = .ok (.iadd, 1) := by decide +kernel
theorem dX5_strengthOf_88 : decode cX5_strengthOf 88 = .ok (.invokevirtual 201, 3) := by decide +kernel
theorem dX5_strengthOf_91 : decode cX5_strengthOf 91 = .ok (.istore 8, 2) := by decide +kernel
theorem dX5_strengthOf_93 : decode cX5_strengthOf 93 = .ok (.iload 6, 2) := by decide +kernel
theorem dX5_strengthOf_95 : decode cX5_strengthOf 95 = .ok (.aload_n 0, 1) := by decide +kernel
theorem dX5_strengthOf_96 : decode cX5_strengthOf 96 = .ok (.getfield 32, 3) := by decide +kernel
theorem dX5_strengthOf_99 : decode cX5_strengthOf 99 = .ok (.iload 8, 2) := by decide +kernel
theorem dX5_strengthOf_101 : decode cX5_strengthOf 101 = .ok (.iaload, 1) := by decide +kernel
theorem dX5_strengthOf_102 : decode cX5_strengthOf 102 = .ok (.iload_n 1, 1) := by decide +kernel
theorem dX5_strengthOf_103 : decode cX5_strengthOf 103 = .ok (.if_icmp .ge 7, 3) := by decide +kernel
theorem dX5_strengthOf_106 : decode cX5_strengthOf 106 = .ok (.iconst 1, 1) := by decide +kernel
theorem dX5_strengthOf_107 : decode cX5_strengthOf 107 = .ok (.goto 4, 3) := by decide +kernel
theorem dX5_strengthOf_110 : decode cX5_strengthOf 110 = .ok (.iconst 0, 1) := by decide +kernel
theorem dX5_strengthOf_111 : decode cX5_strengthOf 111 = .ok (.iadd, 1) := by decide +kernel
theorem dX5_strengthOf_112 : decode cX5_strengthOf 112 = .ok (.istore 6, 2) := by decide +kernel
theorem dX5_strengthOf_114 : decode cX5_strengthOf 114 = .ok (.iinc 7 1, 3) := by decide +kernel
theorem dX5_strengthOf_117 : decode cX5_strengthOf 117 = .ok (.goto (-83), 3) := by decide +kernel
theorem dX5_strengthOf_120 : decode cX5_strengthOf 120 = .ok (.aload_n 0, 1) := by decide +kernel
theorem dX5_strengthOf_121 : decode cX5_strengthOf 121 = .ok (.getfield 191, 3) := by decide +kernel
theorem dX5_strengthOf_124 : decode cX5_strengthOf 124 = .ok (.iload 6, 2) := by decide +kernel
theorem dX5_strengthOf_126 : decode cX5_strengthOf 126 = .ok (.imul, 1) := by decide +kernel
theorem dX5_strengthOf_127 : decode cX5_strengthOf 127 = .ok (.bipush 100, 2) := by decide +kernel
theorem dX5_strengthOf_129 : decode cX5_strengthOf 129 = .ok (.if_icmp .ge 13, 3) := by decide +kernel
theorem dX5_strengthOf_132 : decode cX5_strengthOf 132 = .ok (.aload_n 0, 1) := by decide +kernel
theorem dX5_strengthOf_133 : decode cX5_strengthOf 133 = .ok (.getfield 191, 3) := by decide +kernel
theorem dX5_strengthOf_136 : decode cX5_strengthOf 136 = .ok (.iload 6, 2) := by decide +kernel
theorem dX5_strengthOf_138 : decode cX5_strengthOf 138 = .ok (.imul, 1) := by decide +kernel
theorem dX5_strengthOf_139 : decode cX5_strengthOf 139 = .ok (.goto 5, 3) := by decide +kernel
theorem dX5_strengthOf_142 : decode cX5_strengthOf 142 = .ok (.bipush 100, 2) := by decide +kernel
theorem dX5_strengthOf_144 : decode cX5_strengthOf 144 = .ok (.istore 7, 2) := by decide +kernel
theorem dX5_strengthOf_146 : decode cX5_strengthOf 146 = .ok (.iload_n 2, 1) := by decide +kernel
theorem dX5_strengthOf_147 : decode cX5_strengthOf 147 = .ok (.aload_n 0, 1) := by decide +kernel
theorem dX5_strengthOf_148 : decode cX5_strengthOf 148 = .ok (.getfield 32, 3) := by decide +kernel
theorem dX5_strengthOf_151 : decode cX5_strengthOf 151 = .ok (.iload_n 3, 1) := by decide +kernel
theorem dX5_strengthOf_152 : decode cX5_strengthOf 152 = .ok (.iaload, 1) := by decide +kernel
theorem dX5_strengthOf_153 : decode cX5_strengthOf 153 = .ok (.iload_n 1, 1) := by decide +kernel
theorem dX5_strengthOf_154 : decode cX5_strengthOf 154 = .ok (.if_icmp .ge 8, 3) := by decide +kernel
theorem dX5_strengthOf_157 : decode cX5_strengthOf 157 = .ok (.bipush 100, 2) := by decide +kernel
theorem dX5_strengthOf_159 : decode cX5_strengthOf 159 = .ok (.goto 5, 3) := by decide +kernel
theorem dX5_strengthOf_162 : decode cX5_strengthOf 162 = .ok (.iload 7, 2) := by decide +kernel
theorem dX5_strengthOf_164 : decode cX5_strengthOf 164 = .ok (.iadd, 1) := by decide +kernel
theorem dX5_strengthOf_165 : decode cX5_strengthOf 165 = .ok (.istore_n 2, 1) := by decide +kernel
theorem dX5_strengthOf_166 : decode cX5_strengthOf 166 = .ok (.iinc 3 1, 3) := by decide +kernel
theorem dX5_strengthOf_169 : decode cX5_strengthOf 169 = .ok (.goto (-165), 3) := by decide +kernel
theorem dX5_strengthOf_172 : decode cX5_strengthOf 172 = .ok (.iload_n 2, 1) := by decide +kernel
theorem dX5_strengthOf_173 : decode cX5_strengthOf 173 = .ok (.ireturn, 1) := by decide +kernel
set_option maxRecDepth 20000 in
theorem ggX5_strength_X5_steppedWrong : GoodIn wsX5_strength wsX5_steppedWrong := goodIn_r _ [6, 7, 8, 9, 5, 10, 11, 12, 13, 14, 15, 16, 17, 18, 19, 20, 21, 22, 23, 24, 25, 26, 27, 28, 75, 76, 77, 78, 79, 80, 81, 82, 83, 84, 85, 86, 87, 88, 89, 90, 91, 92, 93, 94, 95, 96, 97, 98, 99, 100, 101, 102, 103, 104, 105, 106, 107, 108, 109] (by decide +kernel) (by decide +kernel)
set_option maxRecDepth 20000 in
theorem gX5_strength_X5_steppedWrong : GoodIn wsX5_strength (wsV RX5 240 RX5 yX5_steppedWrong wsX5_steppedWrong) := goodIn_app (goodIn_of _ (by decide +kernel)) ggX5_strength_X5_steppedWrong
set_option maxRecDepth 20000 in
theorem ggX5_strength_X5_layGrowth : GoodIn wsX5_strength wsX5_layGrowth := goodIn_r _ [32, 33, 34, 35, 36, 37, 38, 39, 5, 40, 22, 41, 42, 43, 44, 45, 46, 47, 48, 49, 26, 27, 28, 23, 24, 25, 50, 51, 52, 18, 19, 20, 21, 53, 54, 55, 56, 57, 58, 59, 60, 61, 62, 63, 64, 65, 75, 76, 77, 78, 79, 80, 81, 82, 83, 84, 85, 86, 87, 88, 89, 90, 91, 92, 93, 94, 95, 96, 97, 98, 99, 100, 101, 102, 103, 104, 105, 106, 107, 108, 109] (by decide +kernel) (by decide +kernel)
set_option maxRecDepth 20000 in
theorem gX5_strength_X5_layGrowth : GoodIn wsX5_strength (wsV RX5 120 RX5 yX5_layGrowth wsX5_layGrowth) := goodIn_app (goodIn_of _ (by decide +kernel)) ggX5_strength_X5_layGrowth
set_option maxRecDepth 20000 in
theorem ggX5_strength_X5_strengthOf : GoodIn wsX5_strength wsX5_strengthOf := goodIn_r _ [69, 33, 35, 36, 70, 71, 72, 73, 5, 74, 45, 46, 63, 64, 65, 50, 51, 52, 75, 76, 77, 78, 79, 80, 81, 82, 83, 84, 85, 86, 87, 88, 89, 90, 91, 92, 93, 94, 95, 96, 97, 98, 99, 100, 101, 102, 103, 104, 105, 106, 107, 108, 109] (by decide +kernel) (by decide +kernel)
set_option maxRecDepth 20000 in
theorem gX5_strength_X5_strengthOf : GoodIn wsX5_strength (wsV RX5 246 RX5 yX5_strengthOf wsX5_strengthOf) := goodIn_app (goodIn_of _ (by decide +kernel)) ggX5_strength_X5_strengthOf
theorem dX5_strength_0 : decode cX5_strength 0 = .ok (.aload_n 0, 1) := by decide +kernel
theorem dX5_strength_1 : decode cX5_strength 1 = .ok (.aload_n 0, 1) := by decide +kernel
theorem dX5_strength_2 : decode cX5_strength 2 = .ok (.iload_n 1, 1) := by decide +kernel
theorem dX5_strength_3 : decode cX5_strength 3 = .ok (.iload_n 2, 1) := by decide +kernel
theorem dX5_strength_4 : decode cX5_strength 4 = .ok (.invokevirtual 240, 3) := by decide +kernel
theorem dX5_strength_7 : decode cX5_strength 7 = .ok (.putfield 59, 3) := by decide +kernel
theorem dX5_strength_10 : decode cX5_strength 10 = .ok (.aload_n 0, 1) := by decide +kernel
theorem dX5_strength_11 : decode cX5_strength 11 = .ok (.getfield 59, 3) := by decide +kernel
theorem dX5_strength_14 : decode cX5_strength 14 = .ok (.ifCond .le 5, 3) := by decide +kernel
theorem dX5_strength_17 : decode cX5_strength 17 = .ok (.iconst 0, 1) := by decide +kernel
theorem dX5_strength_18 : decode cX5_strength 18 = .ok (.ireturn, 1) := by decide +kernel
theorem dX5_strength_19 : decode cX5_strength 19 = .ok (.aload_n 0, 1) := by decide +kernel
theorem dX5_strength_20 : decode cX5_strength 20 = .ok (.iload_n 1, 1) := by decide +kernel
theorem dX5_strength_21 : decode cX5_strength 21 = .ok (.invokevirtual 120, 3) := by decide +kernel
theorem dX5_strength_24 : decode cX5_strength 24 = .ok (.aload_n 0, 1) := by decide +kernel
theorem dX5_strength_25 : decode cX5_strength 25 = .ok (.iload_n 2, 1) := by decide +kernel
theorem dX5_strength_26 : decode cX5_strength 26 = .ok (.invokevirtual 246, 3) := by decide +kernel
theorem dX5_strength_29 : decode cX5_strength 29 = .ok (.ireturn, 1) := by decide +kernel
set_option maxRecDepth 20000 in
theorem ggX5_meanStrength_X5_missing : GoodIn wsX5_meanStrength wsX5_missing := goodIn_r _ [8, 9, 10, 11, 7, 12, 13, 14, 15, 72, 73, 74, 75, 76, 77, 78, 79, 80, 81, 82, 83, 84, 85, 86, 87, 88, 89, 90, 91, 92, 93, 94, 95, 96, 97, 98, 99, 100, 101, 102, 103, 104, 105, 106] (by decide +kernel) (by decide +kernel)
set_option maxRecDepth 20000 in
theorem gX5_meanStrength_X5_missing : GoodIn wsX5_meanStrength (wsV RX5 162 RX5 yX5_missing wsX5_missing) := goodIn_app (goodIn_of _ (by decide +kernel)) ggX5_meanStrength_X5_missing
set_option maxRecDepth 20000 in
theorem ggX5_meanStrength_X5_layGrowth : GoodIn wsX5_meanStrength wsX5_layGrowth := goodIn_r _ [19, 3, 20, 21, 22, 23, 24, 25, 7, 26, 27, 28, 29, 30, 31, 32, 33, 34, 35, 36, 37, 38, 39, 40, 41, 42, 43, 44, 45, 46, 47, 48, 49, 50, 51, 52, 53, 54, 55, 56, 57, 58, 59, 60, 61, 62, 72, 73, 74, 75, 76, 77, 78, 79, 80, 81, 82, 83, 84, 85, 86, 87, 88, 89, 90, 91, 92, 93, 94, 95, 96, 97, 98, 99, 100, 101, 102, 103, 104, 105, 106] (by decide +kernel) (by decide +kernel)
set_option maxRecDepth 20000 in
theorem gX5_meanStrength_X5_layGrowth : GoodIn wsX5_meanStrength (wsV RX5 120 RX5 yX5_layGrowth wsX5_layGrowth) := goodIn_app (goodIn_of _ (by decide +kernel)) ggX5_meanStrength_X5_layGrowth
set_option maxRecDepth 20000 in
theorem ggX5_meanStrength_X5_strengthOf : GoodIn wsX5_meanStrength wsX5_strengthOf := goodIn_r _ [66, 3, 21, 22, 67, 68, 69, 70, 7, 71, 32, 33, 60, 61, 62, 43, 44, 45, 72, 73, 74, 75, 76, 77, 78, 79, 80, 81, 82, 83, 84, 85, 86, 87, 88, 89, 90, 91, 92, 93, 94, 95, 96, 97, 98, 99, 100, 101, 102, 103, 104, 105, 106] (by decide +kernel) (by decide +kernel)
set_option maxRecDepth 20000 in
theorem gX5_meanStrength_X5_strengthOf : GoodIn wsX5_meanStrength (wsV RX5 246 RX5 yX5_strengthOf wsX5_strengthOf) := goodIn_app (goodIn_of _ (by decide +kernel)) ggX5_meanStrength_X5_strengthOf
theorem dX5_meanStrength_0 : decode cX5_meanStrength 0 = .ok (.aload_n 0, 1) := by decide +kernel
theorem dX5_meanStrength_1 : decode cX5_meanStrength 1 = .ok (.aload_n 0, 1) := by decide +kernel
theorem dX5_meanStrength_2 : decode cX5_meanStrength 2 = .ok (.iload_n 1, 1) := by decide +kernel
theorem dX5_meanStrength_3 : decode cX5_meanStrength 3 = .ok (.invokevirtual 162, 3) := by decide +kernel
theorem dX5_meanStrength_6 : decode cX5_meanStrength 6 = .ok (.putfield 59, 3) := by decide +kernel
theorem dX5_meanStrength_9 : decode cX5_meanStrength 9 = .ok (.aload_n 0, 1) := by decide +kernel
theorem dX5_meanStrength_10 : decode cX5_meanStrength 10 = .ok (.getfield 59, 3) := by decide +kernel
theorem dX5_meanStrength_13 : decode cX5_meanStrength 13 = .ok (.ifCond .le 5, 3) := by decide +kernel
theorem dX5_meanStrength_16 : decode cX5_meanStrength 16 = .ok (.dconst 0, 1) := by decide +kernel
theorem dX5_meanStrength_17 : decode cX5_meanStrength 17 = .ok (.dreturn, 1) := by decide +kernel
theorem dX5_meanStrength_18 : decode cX5_meanStrength 18 = .ok (.aload_n 0, 1) := by decide +kernel
theorem dX5_meanStrength_19 : decode cX5_meanStrength 19 = .ok (.iload_n 1, 1) := by decide +kernel
theorem dX5_meanStrength_20 : decode cX5_meanStrength 20 = .ok (.invokevirtual 120, 3) := by decide +kernel
theorem dX5_meanStrength_23 : decode cX5_meanStrength 23 = .ok (.aload_n 0, 1) := by decide +kernel
theorem dX5_meanStrength_24 : decode cX5_meanStrength 24 = .ok (.aload_n 0, 1) := by decide +kernel
theorem dX5_meanStrength_25 : decode cX5_meanStrength 25 = .ok (.getfield 23, 3) := by decide +kernel
theorem dX5_meanStrength_28 : decode cX5_meanStrength 28 = .ok (.iload_n 1, 1) := by decide +kernel
theorem dX5_meanStrength_29 : decode cX5_meanStrength 29 = .ok (.iaload, 1) := by decide +kernel
theorem dX5_meanStrength_30 : decode cX5_meanStrength 30 = .ok (.invokevirtual 246, 3) := by decide +kernel
theorem dX5_meanStrength_33 : decode cX5_meanStrength 33 = .ok (.i2d, 1) := by decide +kernel
theorem dX5_meanStrength_34 : decode cX5_meanStrength 34 = .ok (.aload_n 0, 1) := by decide +kernel
theorem dX5_meanStrength_35 : decode cX5_meanStrength 35 = .ok (.getfield 113, 3) := by decide +kernel
theorem dX5_meanStrength_38 : decode cX5_meanStrength 38 = .ok (.i2d, 1) := by decide +kernel
theorem dX5_meanStrength_39 : decode cX5_meanStrength 39 = .ok (.ddiv, 1) := by decide +kernel
theorem dX5_meanStrength_40 : decode cX5_meanStrength 40 = .ok (.dreturn, 1) := by decide +kernel
set_option maxRecDepth 20000 in
theorem ggX5_compensated_X5_within : GoodIn wsX5_compensated wsX5_within := goodIn_r _ [6] (by decide +kernel) (by decide +kernel)
set_option maxRecDepth 20000 in
theorem gX5_compensated_X5_within : GoodIn wsX5_compensated (va_wsS RX5 71 yX5_within wsX5_within) := goodIn_app (goodIn_of _ (by decide +kernel)) ggX5_compensated_X5_within
set_option maxRecDepth 20000 in
theorem ggX5_compensated_X5_wrong : GoodIn wsX5_compensated wsX5_wrong := goodIn_r _ [10, 11, 12, 13, 5, 14, 3, 4, 6, 71, 72, 73, 74, 75, 76, 77, 78, 79, 80, 81, 82, 83, 84, 85, 86, 87, 88, 89, 90, 91, 92, 93, 94, 95, 96, 97, 98, 99, 100, 101, 102, 103, 104, 105] (by decide +kernel) (by decide +kernel)
set_option maxRecDepth 20000 in
theorem gX5_compensated_X5_wrong : GoodIn wsX5_compensated (wsV RX5 174 RX5 yX5_wrong wsX5_wrong) := goodIn_app (goodIn_of _ (by decide +kernel)) ggX5_compensated_X5_wrong
set_option maxRecDepth 20000 in
theorem ggX5_compensated_X5_layGrowth : GoodIn wsX5_compensated wsX5_layGrowth := goodIn_r _ [18, 2, 19, 20, 21, 22, 23, 24, 5, 25, 26, 27, 28, 29, 30, 31, 32, 33, 34, 35, 36, 37, 38, 39, 40, 41, 42, 43, 44, 45, 46, 47, 48, 49, 50, 51, 52, 53, 54, 55, 56, 57, 58, 59, 60, 61, 71, 72, 73, 74, 75, 76, 77, 78, 79, 80, 81, 82, 83, 84, 85, 86, 87, 88, 89, 90, 91, 92, 93, 94, 95, 96, 97, 98, 99, 100, 101, 102, 103, 104, 105] (by decide +kernel) (by decide +kernel)
set_option maxRecDepth 20000 in
theorem gX5_compensated_X5_layGrowth : GoodIn wsX5_compensated (wsV RX5 120 RX5 yX5_layGrowth wsX5_layGrowth) := goodIn_app (goodIn_of _ (by decide +kernel)) ggX5_compensated_X5_layGrowth
set_option maxRecDepth 20000 in
theorem ggX5_compensated_X5_strengthOf : GoodIn wsX5_compensated wsX5_strengthOf := goodIn_r _ [65, 2, 20, 21, 66, 67, 68, 69, 5, 70, 31, 32, 59, 60, 61, 42, 43, 44, 71, 72, 73, 74, 75, 76, 77, 78, 79, 80, 81, 82, 83, 84, 85, 86, 87, 88, 89, 90, 91, 92, 93, 94, 95, 96, 97, 98, 99, 100, 101, 102, 103, 104, 105] (by decide +kernel) (by decide +kernel)
set_option maxRecDepth 20000 in
theorem gX5_compensated_X5_strengthOf : GoodIn wsX5_compensated (wsV RX5 246 RX5 yX5_strengthOf wsX5_strengthOf) := goodIn_app (goodIn_of _ (by decide +kernel)) ggX5_compensated_X5_strengthOf
set_option maxRecDepth 20000 in
theorem ggX5_compensated_X5_abs : GoodIn wsX5_compensated wsX5_abs := goodIn_r _ [38] (by decide +kernel) (by decide +kernel)
set_option maxRecDepth 20000 in
theorem gX5_compensated_X5_abs : GoodIn wsX5_compensated (va_wsS RX5 63 yX5_abs wsX5_abs) := goodIn_app (goodIn_of _ (by decide +kernel)) ggX5_compensated_X5_abs
theorem dX5_compensated_0 : decode cX5_compensated 0 = .ok (.aload_n 0, 1) := by decide +kernel
theorem dX5_compensated_1 : decode cX5_compensated 1 = .ok (.aload_n 0, 1) := by decide +kernel
theorem dX5_compensated_2 : decode cX5_compensated 2 = .ok (.iload_n 1, 1) := by decide +kernel
theorem dX5_compensated_3 : decode cX5_compensated 3 = .ok (.iload_n 2, 1) := by decide +kernel
theorem dX5_compensated_4 : decode cX5_compensated 4 = .ok (.iconst 0, 1) := by decide +kernel
theorem dX5_compensated_5 : decode cX5_compensated 5 = .ok (.bipush 100, 2) := by decide +kernel
theorem dX5_compensated_7 : decode cX5_compensated 7 = .ok (.invokestatic 71, 3) := by decide +kernel
theorem dX5_compensated_10 : decode cX5_compensated 10 = .ok (.invokevirtual 174, 3) := by decide +kernel
theorem dX5_compensated_13 : decode cX5_compensated 13 = .ok (.putfield 59, 3) := by decide +kernel
theorem dX5_compensated_16 : decode cX5_compensated 16 = .ok (.aload_n 0, 1) := by decide +kernel
theorem dX5_compensated_17 : decode cX5_compensated 17 = .ok (.getfield 59, 3) := by decide +kernel
theorem dX5_compensated_20 : decode cX5_compensated 20 = .ok (.ifCond .le 5, 3) := by decide +kernel
theorem dX5_compensated_23 : decode cX5_compensated 23 = .ok (.iconst 0, 1) := by decide +kernel
theorem dX5_compensated_24 : decode cX5_compensated 24 = .ok (.ireturn, 1) := by decide +kernel
theorem dX5_compensated_25 : decode cX5_compensated 25 = .ok (.aload_n 0, 1) := by decide +kernel
theorem dX5_compensated_26 : decode cX5_compensated 26 = .ok (.iload_n 1, 1) := by decide +kernel
theorem dX5_compensated_27 : decode cX5_compensated 27 = .ok (.invokevirtual 120, 3) := by decide +kernel
theorem dX5_compensated_30 : decode cX5_compensated 30 = .ok (.iconst 0, 1) := by decide +kernel
theorem dX5_compensated_31 : decode cX5_compensated 31 = .ok (.istore_n 3, 1) := by decide +kernel
theorem dX5_compensated_32 : decode cX5_compensated 32 = .ok (.iconst (-1), 1) := by decide +kernel
theorem dX5_compensated_33 : decode cX5_compensated 33 = .ok (.istore 4, 2) := by decide +kernel
theorem dX5_compensated_35 : decode cX5_compensated 35 = .ok (.iconst 0, 1) := by decide +kernel
theorem dX5_compensated_36 : decode cX5_compensated 36 = .ok (.istore 5, 2) := by decide +kernel
theorem dX5_compensated_38 : decode cX5_compensated 38 = .ok (.iload 5, 2) := by decide +kernel
theorem dX5_compensated_40 : decode cX5_compensated 40 = .ok (.aload_n 0, 1) := by decide +kernel
theorem dX5_compensated_41 : decode cX5_compensated 41 = .ok (.getfield 113, 3) := by decide +kernel
theorem dX5_compensated_44 : decode cX5_compensated 44 = .ok (.if_icmp .gt 69, 3) := by decide +kernel
theorem dX5_compensated_47 : decode cX5_compensated 47 = .ok (.aload_n 0, 1) := by decide +kernel
theorem dX5_compensated_48 : decode cX5_compensated 48 = .ok (.iload 5, 2) := by decide +kernel
theorem dX5_compensated_50 : decode cX5_compensated 50 = .ok (.invokevirtual 246, 3) := by decide +kernel
theorem dX5_compensated_53 : decode cX5_compensated 53 = .ok (.iload_n 2, 1) := by decide +kernel
theorem dX5_compensated_54 : decode cX5_compensated 54 = .ok (.aload_n 0, 1) := by decide +kernel
theorem dX5_compensated_55 : decode cX5_compensated 55 = .ok (.getfield 113, 3) := by decide +kernel
theorem dX5_compensated_58 : decode cX5_compensated 58 = .ok (.imul, 1) := by decide +kernel
theorem dX5_compensated_59 : decode cX5_compensated 59 = .ok (.isub, 1) := by decide +kernel
theorem dX5_compensated_60 : decode cX5_compensated 60 = .ok (.invokestatic 63, 3) := by decide +kernel
theorem dX5_compensated_63 : decode cX5_compensated 63 = .ok (.istore 6, 2) := by decide +kernel
theorem dX5_compensated_65 : decode cX5_compensated 65 = .ok (.iload 4, 2) := by decide +kernel
theorem dX5_compensated_67 : decode cX5_compensated 67 = .ok (.iconst (-1), 1) := by decide +kernel
theorem dX5_compensated_68 : decode cX5_compensated 68 = .ok (.if_icmp .eq 10, 3) := by decide +kernel
theorem dX5_compensated_71 : decode cX5_compensated 71 = .ok (.iload 6, 2) := by decide +kernel
theorem dX5_compensated_73 : decode cX5_compensated 73 = .ok (.iload 4, 2) := by decide +kernel
theorem dX5_compensated_75 : decode cX5_compensated 75 = .ok (.if_icmp .ge 8, 3) := by decide +kernel
theorem dX5_compensated_78 : decode cX5_compensated 78 = .ok (.iload 5, 2) := by decide +kernel
theorem dX5_compensated_80 : decode cX5_compensated 80 = .ok (.goto 4, 3) := by decide +kernel
theorem dX5_compensated_83 : decode cX5_compensated 83 = .ok (.iload_n 3, 1) := by decide +kernel
theorem dX5_compensated_84 : decode cX5_compensated 84 = .ok (.istore_n 3, 1) := by decide +kernel
theorem dX5_compensated_85 : decode cX5_compensated 85 = .ok (.iload 4, 2) := by decide +kernel
theorem dX5_compensated_87 : decode cX5_compensated 87 = .ok (.iconst (-1), 1) := by decide +kernel
theorem dX5_compensated_88 : decode cX5_compensated 88 = .ok (.if_icmp .eq 10, 3) := by decide +kernel
theorem dX5_compensated_91 : decode cX5_compensated 91 = .ok (.iload 6, 2) := by decide +kernel
theorem dX5_compensated_93 : decode cX5_compensated 93 = .ok (.iload 4, 2) := by decide +kernel
theorem dX5_compensated_95 : decode cX5_compensated 95 = .ok (.if_icmp .ge 8, 3) := by decide +kernel
theorem dX5_compensated_98 : decode cX5_compensated 98 = .ok (.iload 6, 2) := by decide +kernel
theorem dX5_compensated_100 : decode cX5_compensated 100 = .ok (.goto 5, 3) := by decide +kernel
theorem dX5_compensated_103 : decode cX5_compensated 103 = .ok (.iload 4, 2) := by decide +kernel
theorem dX5_compensated_105 : decode cX5_compensated 105 = .ok (.istore 4, 2) := by decide +kernel
theorem dX5_compensated_107 : decode cX5_compensated 107 = .ok (.iinc 5 1, 3) := by decide +kernel
theorem dX5_compensated_110 : decode cX5_compensated 110 = .ok (.goto (-72), 3) := by decide +kernel
theorem dX5_compensated_113 : decode cX5_compensated 113 = .ok (.iload_n 3, 1) := by decide +kernel
theorem dX5_compensated_114 : decode cX5_compensated 114 = .ok (.ireturn, 1) := by decide +kernel
set_option maxRecDepth 20000 in
theorem ggX5_meetLattice_X5_gcd : GoodIn wsX5_meetLattice wsX5_gcd := goodIn_r _ [7, 8, 9, 6, 10] (by decide +kernel) (by decide +kernel)
set_option maxRecDepth 20000 in
theorem gX5_meetLattice_X5_gcd : GoodIn wsX5_meetLattice (va_wsS RX5 79 yX5_gcd wsX5_gcd) := goodIn_app (goodIn_of _ (by decide +kernel)) ggX5_meetLattice_X5_gcd
set_option maxRecDepth 20000 in
theorem ggX5_meetLattice_X5_mod : GoodIn wsX5_meetLattice wsX5_mod := goodIn_r _ [13] (by decide +kernel) (by decide +kernel)
set_option maxRecDepth 20000 in
theorem gX5_meetLattice_X5_mod : GoodIn wsX5_meetLattice (va_wsS RX5 67 yX5_mod wsX5_mod) := goodIn_app (goodIn_of _ (by decide +kernel)) ggX5_meetLattice_X5_mod
theorem dX5_meetLattice_0 : decode cX5_meetLattice 0 = .ok (.aload_n 0, 1) := by decide +kernel
theorem dX5_meetLattice_1 : decode cX5_meetLattice 1 = .ok (.getfield 89, 3) := by decide +kernel
theorem dX5_meetLattice_4 : decode cX5_meetLattice 4 = .ok (.iload_n 1, 1) := by decide +kernel
theorem dX5_meetLattice_5 : decode cX5_meetLattice 5 = .ok (.invokestatic 79, 3) := by decide +kernel
theorem dX5_meetLattice_8 : decode cX5_meetLattice 8 = .ok (.istore 4, 2) := by decide +kernel
theorem dX5_meetLattice_10 : decode cX5_meetLattice 10 = .ok (.aload_n 0, 1) := by decide +kernel
theorem dX5_meetLattice_11 : decode cX5_meetLattice 11 = .ok (.getfield 82, 3) := by decide +kernel
theorem dX5_meetLattice_14 : decode cX5_meetLattice 14 = .ok (.aload_n 0, 1) := by decide +kernel
theorem dX5_meetLattice_15 : decode cX5_meetLattice 15 = .ok (.getfield 82, 3) := by decide +kernel
theorem dX5_meetLattice_18 : decode cX5_meetLattice 18 = .ok (.iload_n 3, 1) := by decide +kernel
theorem dX5_meetLattice_19 : decode cX5_meetLattice 19 = .ok (.invokestatic 79, 3) := by decide +kernel
theorem dX5_meetLattice_22 : decode cX5_meetLattice 22 = .ok (.idiv, 1) := by decide +kernel
theorem dX5_meetLattice_23 : decode cX5_meetLattice 23 = .ok (.iload_n 3, 1) := by decide +kernel
theorem dX5_meetLattice_24 : decode cX5_meetLattice 24 = .ok (.imul, 1) := by decide +kernel
theorem dX5_meetLattice_25 : decode cX5_meetLattice 25 = .ok (.istore 5, 2) := by decide +kernel
theorem dX5_meetLattice_27 : decode cX5_meetLattice 27 = .ok (.iload 5, 2) := by decide +kernel
theorem dX5_meetLattice_29 : decode cX5_meetLattice 29 = .ok (.aload_n 0, 1) := by decide +kernel
theorem dX5_meetLattice_30 : decode cX5_meetLattice 30 = .ok (.getfield 82, 3) := by decide +kernel
theorem dX5_meetLattice_33 : decode cX5_meetLattice 33 = .ok (.idiv, 1) := by decide +kernel
theorem dX5_meetLattice_34 : decode cX5_meetLattice 34 = .ok (.aload_n 0, 1) := by decide +kernel
theorem dX5_meetLattice_35 : decode cX5_meetLattice 35 = .ok (.getfield 92, 3) := by decide +kernel
theorem dX5_meetLattice_38 : decode cX5_meetLattice 38 = .ok (.imul, 1) := by decide +kernel
theorem dX5_meetLattice_39 : decode cX5_meetLattice 39 = .ok (.iload 5, 2) := by decide +kernel
theorem dX5_meetLattice_41 : decode cX5_meetLattice 41 = .ok (.iload_n 3, 1) := by decide +kernel
theorem dX5_meetLattice_42 : decode cX5_meetLattice 42 = .ok (.idiv, 1) := by decide +kernel
theorem dX5_meetLattice_43 : decode cX5_meetLattice 43 = .ok (.iload_n 2, 1) := by decide +kernel
theorem dX5_meetLattice_44 : decode cX5_meetLattice 44 = .ok (.imul, 1) := by decide +kernel
theorem dX5_meetLattice_45 : decode cX5_meetLattice 45 = .ok (.isub, 1) := by decide +kernel
theorem dX5_meetLattice_46 : decode cX5_meetLattice 46 = .ok (.iload 4, 2) := by decide +kernel
theorem dX5_meetLattice_48 : decode cX5_meetLattice 48 = .ok (.invokestatic 67, 3) := by decide +kernel
theorem dX5_meetLattice_51 : decode cX5_meetLattice 51 = .ok (.istore 6, 2) := by decide +kernel
theorem dX5_meetLattice_53 : decode cX5_meetLattice 53 = .ok (.iload 5, 2) := by decide +kernel
theorem dX5_meetLattice_55 : decode cX5_meetLattice 55 = .ok (.iload 4, 2) := by decide +kernel
theorem dX5_meetLattice_57 : decode cX5_meetLattice 57 = .ok (.iload 4, 2) := by decide +kernel
theorem dX5_meetLattice_59 : decode cX5_meetLattice 59 = .ok (.iload 6, 2) := by decide +kernel
theorem dX5_meetLattice_61 : decode cX5_meetLattice 61 = .ok (.invokestatic 79, 3) := by decide +kernel
theorem dX5_meetLattice_64 : decode cX5_meetLattice 64 = .ok (.idiv, 1) := by decide +kernel
theorem dX5_meetLattice_65 : decode cX5_meetLattice 65 = .ok (.imul, 1) := by decide +kernel
theorem dX5_meetLattice_66 : decode cX5_meetLattice 66 = .ok (.istore 7, 2) := by decide +kernel
theorem dX5_meetLattice_68 : decode cX5_meetLattice 68 = .ok (.aload_n 0, 1) := by decide +kernel
theorem dX5_meetLattice_69 : decode cX5_meetLattice 69 = .ok (.getfield 89, 3) := by decide +kernel
theorem dX5_meetLattice_72 : decode cX5_meetLattice 72 = .ok (.iload 4, 2) := by decide +kernel
theorem dX5_meetLattice_74 : decode cX5_meetLattice 74 = .ok (.idiv, 1) := by decide +kernel
theorem dX5_meetLattice_75 : decode cX5_meetLattice 75 = .ok (.iload_n 1, 1) := by decide +kernel
theorem dX5_meetLattice_76 : decode cX5_meetLattice 76 = .ok (.imul, 1) := by decide +kernel
theorem dX5_meetLattice_77 : decode cX5_meetLattice 77 = .ok (.istore 8, 2) := by decide +kernel
theorem dX5_meetLattice_79 : decode cX5_meetLattice 79 = .ok (.iload 7, 2) := by decide +kernel
theorem dX5_meetLattice_81 : decode cX5_meetLattice 81 = .ok (.aload_n 0, 1) := by decide +kernel
theorem dX5_meetLattice_82 : decode cX5_meetLattice 82 = .ok (.getfield 82, 3) := by decide +kernel
theorem dX5_meetLattice_85 : decode cX5_meetLattice 85 = .ok (.idiv, 1) := by decide +kernel
theorem dX5_meetLattice_86 : decode cX5_meetLattice 86 = .ok (.aload_n 0, 1) := by decide +kernel
theorem dX5_meetLattice_87 : decode cX5_meetLattice 87 = .ok (.getfield 92, 3) := by decide +kernel
theorem dX5_meetLattice_90 : decode cX5_meetLattice 90 = .ok (.imul, 1) := by decide +kernel
theorem dX5_meetLattice_91 : decode cX5_meetLattice 91 = .ok (.aload_n 0, 1) := by decide +kernel
theorem dX5_meetLattice_92 : decode cX5_meetLattice 92 = .ok (.getfield 89, 3) := by decide +kernel
theorem dX5_meetLattice_95 : decode cX5_meetLattice 95 = .ok (.invokestatic 67, 3) := by decide +kernel
theorem dX5_meetLattice_98 : decode cX5_meetLattice 98 = .ok (.istore 9, 2) := by decide +kernel
theorem dX5_meetLattice_100 : decode cX5_meetLattice 100 = .ok (.iload 7, 2) := by decide +kernel
theorem dX5_meetLattice_102 : decode cX5_meetLattice 102 = .ok (.iload_n 3, 1) := by decide +kernel
theorem dX5_meetLattice_103 : decode cX5_meetLattice 103 = .ok (.idiv, 1) := by decide +kernel
theorem dX5_meetLattice_104 : decode cX5_meetLattice 104 = .ok (.iload_n 2, 1) := by decide +kernel
theorem dX5_meetLattice_105 : decode cX5_meetLattice 105 = .ok (.imul, 1) := by decide +kernel
theorem dX5_meetLattice_106 : decode cX5_meetLattice 106 = .ok (.iload_n 1, 1) := by decide +kernel
theorem dX5_meetLattice_107 : decode cX5_meetLattice 107 = .ok (.invokestatic 67, 3) := by decide +kernel
theorem dX5_meetLattice_110 : decode cX5_meetLattice 110 = .ok (.istore 10, 2) := by decide +kernel
theorem dX5_meetLattice_112 : decode cX5_meetLattice 112 = .ok (.iload 9, 2) := by decide +kernel
theorem dX5_meetLattice_114 : decode cX5_meetLattice 114 = .ok (.iload_n 1, 1) := by decide +kernel
theorem dX5_meetLattice_115 : decode cX5_meetLattice 115 = .ok (.irem, 1) := by decide +kernel
theorem dX5_meetLattice_116 : decode cX5_meetLattice 116 = .ok (.iload 10, 2) := by decide +kernel
theorem dX5_meetLattice_118 : decode cX5_meetLattice 118 = .ok (.if_icmp .eq 15, 3) := by decide +kernel
theorem dX5_meetLattice_121 : decode cX5_meetLattice 121 = .ok (.iload 9, 2) := by decide +kernel
theorem dX5_meetLattice_123 : decode cX5_meetLattice 123 = .ok (.aload_n 0, 1) := by decide +kernel
theorem dX5_meetLattice_124 : decode cX5_meetLattice 124 = .ok (.getfield 89, 3) := by decide +kernel
theorem dX5_meetLattice_127 : decode cX5_meetLattice 127 = .ok (.iadd, 1) := by decide +kernel
theorem dX5_meetLattice_128 : decode cX5_meetLattice 128 = .ok (.istore 9, 2) := by decide +kernel
theorem dX5_meetLattice_130 : decode cX5_meetLattice 130 = .ok (.goto (-18), 3) := by decide +kernel
theorem dX5_meetLattice_133 : decode cX5_meetLattice 133 = .ok (.aload_n 0, 1) := by decide +kernel
theorem dX5_meetLattice_134 : decode cX5_meetLattice 134 = .ok (.iload 8, 2) := by decide +kernel
theorem dX5_meetLattice_136 : decode cX5_meetLattice 136 = .ok (.putfield 89, 3) := by decide +kernel
theorem dX5_meetLattice_139 : decode cX5_meetLattice 139 = .ok (.aload_n 0, 1) := by decide +kernel
theorem dX5_meetLattice_140 : decode cX5_meetLattice 140 = .ok (.iload 7, 2) := by decide +kernel
theorem dX5_meetLattice_142 : decode cX5_meetLattice 142 = .ok (.putfield 82, 3) := by decide +kernel
theorem dX5_meetLattice_145 : decode cX5_meetLattice 145 = .ok (.aload_n 0, 1) := by decide +kernel
theorem dX5_meetLattice_146 : decode cX5_meetLattice 146 = .ok (.iload 9, 2) := by decide +kernel
theorem dX5_meetLattice_148 : decode cX5_meetLattice 148 = .ok (.putfield 92, 3) := by decide +kernel
theorem dX5_meetLattice_151 : decode cX5_meetLattice 151 = .ok (.return_, 1) := by decide +kernel
set_option maxRecDepth 20000 in
theorem ggX5_layPeriod_X5_layScreen : GoodIn wsX5_layPeriod wsX5_layScreen := goodIn_r _ [8, 9, 10, 11, 12, 7, 13, 3, 1, 2, 14, 15, 16, 17, 18, 19, 20, 21, 22, 23, 24, 25, 30, 31, 32, 33, 34, 35, 36, 37, 38, 39, 40, 41, 42, 43, 44, 45, 46, 47, 48, 49, 50, 51, 52, 53, 54, 55, 56, 57, 58, 59, 60, 61, 62, 63, 64] (by decide +kernel) (by decide +kernel)
set_option maxRecDepth 20000 in
theorem gX5_layPeriod_X5_layScreen : GoodIn wsX5_layPeriod (wsV RX5 109 RX5 yX5_layScreen wsX5_layScreen) := goodIn_app (goodIn_of _ (by decide +kernel)) ggX5_layPeriod_X5_layScreen
set_option maxRecDepth 20000 in
theorem ggX5_layPeriod_X5_meetLattice : GoodIn wsX5_layPeriod wsX5_meetLattice := goodIn_r _ [29, 1, 3, 2, 14, 15, 7, 16, 17, 18, 19, 23, 24, 25, 30, 31, 32, 33, 34, 35, 36, 37, 38, 39, 40, 41, 42, 43, 44, 45, 46, 47, 48, 49, 50, 51, 52, 53, 54, 55, 56, 57, 58, 59, 60, 61, 62, 63, 64] (by decide +kernel) (by decide +kernel)
set_option maxRecDepth 20000 in
theorem gX5_layPeriod_X5_meetLattice : GoodIn wsX5_layPeriod (wsV RX5 249 RX5 yX5_meetLattice wsX5_meetLattice) := goodIn_app (goodIn_of _ (by decide +kernel)) ggX5_layPeriod_X5_meetLattice
theorem dX5_layPeriod_0 : decode cX5_layPeriod 0 = .ok (.aload_n 0, 1) := by decide +kernel
theorem dX5_layPeriod_1 : decode cX5_layPeriod 1 = .ok (.iconst 1, 1) := by decide +kernel
theorem dX5_layPeriod_2 : decode cX5_layPeriod 2 = .ok (.putfield 89, 3) := by decide +kernel
theorem dX5_layPeriod_5 : decode cX5_layPeriod 5 = .ok (.aload_n 0, 1) := by decide +kernel
theorem dX5_layPeriod_6 : decode cX5_layPeriod 6 = .ok (.iconst 0, 1) := by decide +kernel
theorem dX5_layPeriod_7 : decode cX5_layPeriod 7 = .ok (.putfield 92, 3) := by decide +kernel
theorem dX5_layPeriod_10 : decode cX5_layPeriod 10 = .ok (.aload_n 0, 1) := by decide +kernel
theorem dX5_layPeriod_11 : decode cX5_layPeriod 11 = .ok (.iconst 1, 1) := by decide +kernel
theorem dX5_layPeriod_12 : decode cX5_layPeriod 12 = .ok (.putfield 82, 3) := by decide +kernel
theorem dX5_layPeriod_15 : decode cX5_layPeriod 15 = .ok (.iconst 0, 1) := by decide +kernel
theorem dX5_layPeriod_16 : decode cX5_layPeriod 16 = .ok (.istore_n 2, 1) := by decide +kernel
theorem dX5_layPeriod_17 : decode cX5_layPeriod 17 = .ok (.iload_n 2, 1) := by decide +kernel
theorem dX5_layPeriod_18 : decode cX5_layPeriod 18 = .ok (.iconst 3, 1) := by decide +kernel
theorem dX5_layPeriod_19 : decode cX5_layPeriod 19 = .ok (.if_icmp .ge 49, 3) := by decide +kernel
theorem dX5_layPeriod_22 : decode cX5_layPeriod 22 = .ok (.iload_n 1, 1) := by decide +kernel
theorem dX5_layPeriod_23 : decode cX5_layPeriod 23 = .ok (.iload_n 2, 1) := by decide +kernel
theorem dX5_layPeriod_24 : decode cX5_layPeriod 24 = .ok (.ishr, 1) := by decide +kernel
theorem dX5_layPeriod_25 : decode cX5_layPeriod 25 = .ok (.iconst 1, 1) := by decide +kernel
theorem dX5_layPeriod_26 : decode cX5_layPeriod 26 = .ok (.iand, 1) := by decide +kernel
theorem dX5_layPeriod_27 : decode cX5_layPeriod 27 = .ok (.iconst 1, 1) := by decide +kernel
theorem dX5_layPeriod_28 : decode cX5_layPeriod 28 = .ok (.if_icmp .ne 34, 3) := by decide +kernel
theorem dX5_layPeriod_31 : decode cX5_layPeriod 31 = .ok (.aload_n 0, 1) := by decide +kernel
theorem dX5_layPeriod_32 : decode cX5_layPeriod 32 = .ok (.getfield 89, 3) := by decide +kernel
theorem dX5_layPeriod_35 : decode cX5_layPeriod 35 = .ok (.istore_n 3, 1) := by decide +kernel
theorem dX5_layPeriod_36 : decode cX5_layPeriod 36 = .ok (.aload_n 0, 1) := by decide +kernel
theorem dX5_layPeriod_37 : decode cX5_layPeriod 37 = .ok (.getfield 92, 3) := by decide +kernel
theorem dX5_layPeriod_40 : decode cX5_layPeriod 40 = .ok (.istore 4, 2) := by decide +kernel
theorem dX5_layPeriod_42 : decode cX5_layPeriod 42 = .ok (.aload_n 0, 1) := by decide +kernel
theorem dX5_layPeriod_43 : decode cX5_layPeriod 43 = .ok (.getfield 82, 3) := by decide +kernel
theorem dX5_layPeriod_46 : decode cX5_layPeriod 46 = .ok (.istore 5, 2) := by decide +kernel
theorem dX5_layPeriod_48 : decode cX5_layPeriod 48 = .ok (.aload_n 0, 1) := by decide +kernel
theorem dX5_layPeriod_49 : decode cX5_layPeriod 49 = .ok (.iload_n 2, 1) := by decide +kernel
theorem dX5_layPeriod_50 : decode cX5_layPeriod 50 = .ok (.invokevirtual 109, 3) := by decide +kernel
theorem dX5_layPeriod_53 : decode cX5_layPeriod 53 = .ok (.aload_n 0, 1) := by decide +kernel
theorem dX5_layPeriod_54 : decode cX5_layPeriod 54 = .ok (.iload_n 3, 1) := by decide +kernel
theorem dX5_layPeriod_55 : decode cX5_layPeriod 55 = .ok (.iload 4, 2) := by decide +kernel
theorem dX5_layPeriod_57 : decode cX5_layPeriod 57 = .ok (.iload 5, 2) := by decide +kernel
theorem dX5_layPeriod_59 : decode cX5_layPeriod 59 = .ok (.invokevirtual 249, 3) := by decide +kernel
theorem dX5_layPeriod_62 : decode cX5_layPeriod 62 = .ok (.iinc 2 1, 3) := by decide +kernel
theorem dX5_layPeriod_65 : decode cX5_layPeriod 65 = .ok (.goto (-48), 3) := by decide +kernel
theorem dX5_layPeriod_68 : decode cX5_layPeriod 68 = .ok (.return_, 1) := by decide +kernel
theorem dX5_numberOf_0 : decode cX5_numberOf 0 = .ok (.iload_n 1, 1) := by decide +kernel
theorem dX5_numberOf_1 : decode cX5_numberOf 1 = .ok (.ifCond .ne 15, 3) := by decide +kernel
theorem dX5_numberOf_4 : decode cX5_numberOf 4 = .ok (.aload_n 0, 1) := by decide +kernel
theorem dX5_numberOf_5 : decode cX5_numberOf 5 = .ok (.getfield 89, 3) := by decide +kernel
theorem dX5_numberOf_8 : decode cX5_numberOf 8 = .ok (.aload_n 0, 1) := by decide +kernel
theorem dX5_numberOf_9 : decode cX5_numberOf 9 = .ok (.getfield 82, 3) := by decide +kernel
theorem dX5_numberOf_12 : decode cX5_numberOf 12 = .ok (.imul, 1) := by decide +kernel
theorem dX5_numberOf_13 : decode cX5_numberOf 13 = .ok (.goto 31, 3) := by decide +kernel
theorem dX5_numberOf_16 : decode cX5_numberOf 16 = .ok (.iload_n 1, 1) := by decide +kernel
theorem dX5_numberOf_17 : decode cX5_numberOf 17 = .ok (.iconst 1, 1) := by decide +kernel
theorem dX5_numberOf_18 : decode cX5_numberOf 18 = .ok (.if_icmp .ne 10, 3) := by decide +kernel
theorem dX5_numberOf_21 : decode cX5_numberOf 21 = .ok (.aload_n 0, 1) := by decide +kernel
theorem dX5_numberOf_22 : decode cX5_numberOf 22 = .ok (.getfield 89, 3) := by decide +kernel
theorem dX5_numberOf_25 : decode cX5_numberOf 25 = .ok (.goto 19, 3) := by decide +kernel
theorem dX5_numberOf_28 : decode cX5_numberOf 28 = .ok (.iload_n 1, 1) := by decide +kernel
theorem dX5_numberOf_29 : decode cX5_numberOf 29 = .ok (.iconst 2, 1) := by decide +kernel
theorem dX5_numberOf_30 : decode cX5_numberOf 30 = .ok (.if_icmp .ne 10, 3) := by decide +kernel
theorem dX5_numberOf_33 : decode cX5_numberOf 33 = .ok (.aload_n 0, 1) := by decide +kernel
theorem dX5_numberOf_34 : decode cX5_numberOf 34 = .ok (.getfield 92, 3) := by decide +kernel
theorem dX5_numberOf_37 : decode cX5_numberOf 37 = .ok (.goto 7, 3) := by decide +kernel
theorem dX5_numberOf_40 : decode cX5_numberOf 40 = .ok (.aload_n 0, 1) := by decide +kernel
theorem dX5_numberOf_41 : decode cX5_numberOf 41 = .ok (.getfield 82, 3) := by decide +kernel
theorem dX5_numberOf_44 : decode cX5_numberOf 44 = .ok (.ireturn, 1) := by decide +kernel
theorem dX5_there_0 : decode cX5_there 0 = .ok (.iconst 0, 1) := by decide +kernel
theorem dX5_there_1 : decode cX5_there 1 = .ok (.istore_n 1, 1) := by decide +kernel
theorem dX5_there_2 : decode cX5_there 2 = .ok (.iconst 0, 1) := by decide +kernel
theorem dX5_there_3 : decode cX5_there 3 = .ok (.istore_n 2, 1) := by decide +kernel
theorem dX5_there_4 : decode cX5_there 4 = .ok (.iload_n 2, 1) := by decide +kernel
theorem dX5_there_5 : decode cX5_there 5 = .ok (.iconst 3, 1) := by decide +kernel
theorem dX5_there_6 : decode cX5_there 6 = .ok (.if_icmp .ge 28, 3) := by decide +kernel
theorem dX5_there_9 : decode cX5_there 9 = .ok (.iload_n 1, 1) := by decide +kernel
theorem dX5_there_10 : decode cX5_there 10 = .ok (.aload_n 0, 1) := by decide +kernel
theorem dX5_there_11 : decode cX5_there 11 = .ok (.getfield 7, 3) := by decide +kernel
theorem dX5_there_14 : decode cX5_there 14 = .ok (.iload_n 2, 1) := by decide +kernel
theorem dX5_there_15 : decode cX5_there 15 = .ok (.baload, 1) := by decide +kernel
theorem dX5_there_16 : decode cX5_there 16 = .ok (.ifCond .eq 9, 3) := by decide +kernel
theorem dX5_there_19 : decode cX5_there 19 = .ok (.iconst 1, 1) := by decide +kernel
theorem dX5_there_20 : decode cX5_there 20 = .ok (.iload_n 2, 1) := by decide +kernel
theorem dX5_there_21 : decode cX5_there 21 = .ok (.ishl, 1) := by decide +kernel
theorem dX5_there_22 : decode cX5_there 22 = .ok (.goto 4, 3) := by decide +kernel
theorem dX5_there_25 : decode cX5_there 25 = .ok (.iconst 0, 1) := by decide +kernel
theorem dX5_there_26 : decode cX5_there 26 = .ok (.iadd, 1) := by decide +kernel
theorem dX5_there_27 : decode cX5_there 27 = .ok (.istore_n 1, 1) := by decide +kernel
theorem dX5_there_28 : decode cX5_there 28 = .ok (.iinc 2 1, 3) := by decide +kernel
theorem dX5_there_31 : decode cX5_there 31 = .ok (.goto (-27), 3) := by decide +kernel
theorem dX5_there_34 : decode cX5_there 34 = .ok (.iload_n 1, 1) := by decide +kernel
theorem dX5_there_35 : decode cX5_there 35 = .ok (.ireturn, 1) := by decide +kernel
set_option maxRecDepth 20000 in
theorem ggX5_period_X5_within : GoodIn wsX5_period wsX5_within := goodIn_r _ [5] (by decide +kernel) (by decide +kernel)
set_option maxRecDepth 20000 in
theorem gX5_period_X5_within : GoodIn wsX5_period (va_wsS RX5 71 yX5_within wsX5_within) := goodIn_app (goodIn_of _ (by decide +kernel)) ggX5_period_X5_within
set_option maxRecDepth 20000 in
theorem ggX5_period_X5_there : GoodIn wsX5_period wsX5_there := goodIn_r _ [9, 10, 47, 48, 49, 50, 51, 52, 53, 54, 55, 56, 57, 58, 59, 60, 61, 62, 63, 64, 65, 66, 67, 68, 69, 70, 71, 72, 73, 74, 75, 76, 77, 78, 79, 80, 81] (by decide +kernel) (by decide +kernel)
set_option maxRecDepth 20000 in
theorem gX5_period_X5_there : GoodIn wsX5_period (wsV RX5 253 RX5 yX5_there wsX5_there) := goodIn_app (goodIn_of _ (by decide +kernel)) ggX5_period_X5_there
set_option maxRecDepth 20000 in
theorem ggX5_period_X5_layPeriod : GoodIn wsX5_period wsX5_layPeriod := goodIn_r _ [14, 15, 16, 17, 18, 19, 20, 4, 21, 22, 23, 24, 25, 26, 27, 28, 29, 30, 31, 32, 33, 34, 35, 36, 37, 38, 39, 40, 41, 42, 47, 48, 49, 50, 51, 52, 53, 54, 55, 56, 57, 58, 59, 60, 61, 62, 63, 64, 65, 66, 67, 68, 69, 70, 71, 72, 73, 74, 75, 76, 77, 78, 79, 80, 81] (by decide +kernel) (by decide +kernel)
set_option maxRecDepth 20000 in
theorem gX5_period_X5_layPeriod : GoodIn wsX5_period (wsV RX5 256 RX5 yX5_layPeriod wsX5_layPeriod) := goodIn_app (goodIn_of _ (by decide +kernel)) ggX5_period_X5_layPeriod
set_option maxRecDepth 20000 in
theorem ggX5_period_X5_numberOf : GoodIn wsX5_period wsX5_numberOf := goodIn_r _ [46, 15, 17, 16, 47, 48, 49, 50, 51, 52, 53, 54, 55, 56, 57, 58, 59, 60, 61, 62, 63, 64, 65, 66, 67, 68, 69, 70, 71, 72, 73, 74, 75, 76, 77, 78, 79, 80, 81] (by decide +kernel) (by decide +kernel)
set_option maxRecDepth 20000 in
theorem gX5_period_X5_numberOf : GoodIn wsX5_period (wsV RX5 259 RX5 yX5_numberOf wsX5_numberOf) := goodIn_app (goodIn_of _ (by decide +kernel)) ggX5_period_X5_numberOf
theorem dX5_period_0 : decode cX5_period 0 = .ok (.aload_n 0, 1) := by decide +kernel
theorem dX5_period_1 : decode cX5_period 1 = .ok (.iload_n 1, 1) := by decide +kernel
theorem dX5_period_2 : decode cX5_period 2 = .ok (.iconst 1, 1) := by decide +kernel
theorem dX5_period_3 : decode cX5_period 3 = .ok (.bipush 7, 2) := by decide +kernel
theorem dX5_period_5 : decode cX5_period 5 = .ok (.invokestatic 71, 3) := by decide +kernel
theorem dX5_period_8 : decode cX5_period 8 = .ok (.ifCond .eq 12, 3) := by decide +kernel
theorem dX5_period_11 : decode cX5_period 11 = .ok (.iload_n 2, 1) := by decide +kernel
theorem dX5_period_12 : decode cX5_period 12 = .ok (.iconst 0, 1) := by decide +kernel
theorem dX5_period_13 : decode cX5_period 13 = .ok (.iconst 3, 1) := by decide +kernel
theorem dX5_period_14 : decode cX5_period 14 = .ok (.invokestatic 71, 3) := by decide +kernel
theorem dX5_period_17 : decode cX5_period 17 = .ok (.ifCond .ne 7, 3) := by decide +kernel
theorem dX5_period_20 : decode cX5_period 20 = .ok (.iconst 1, 1) := by decide +kernel
theorem dX5_period_21 : decode cX5_period 21 = .ok (.goto 19, 3) := by decide +kernel
theorem dX5_period_24 : decode cX5_period 24 = .ok (.iload_n 1, 1) := by decide +kernel
theorem dX5_period_25 : decode cX5_period 25 = .ok (.aload_n 0, 1) := by decide +kernel
theorem dX5_period_26 : decode cX5_period 26 = .ok (.invokevirtual 253, 3) := by decide +kernel
theorem dX5_period_29 : decode cX5_period 29 = .ok (.iconst (-1), 1) := by decide +kernel
theorem dX5_period_30 : decode cX5_period 30 = .ok (.ixor, 1) := by decide +kernel
theorem dX5_period_31 : decode cX5_period 31 = .ok (.iand, 1) := by decide +kernel
theorem dX5_period_32 : decode cX5_period 32 = .ok (.ifCond .ne 7, 3) := by decide +kernel
theorem dX5_period_35 : decode cX5_period 35 = .ok (.iconst 0, 1) := by decide +kernel
theorem dX5_period_36 : decode cX5_period 36 = .ok (.goto 4, 3) := by decide +kernel
theorem dX5_period_39 : decode cX5_period 39 = .ok (.iconst 2, 1) := by decide +kernel
theorem dX5_period_40 : decode cX5_period 40 = .ok (.putfield 59, 3) := by decide +kernel
theorem dX5_period_43 : decode cX5_period 43 = .ok (.aload_n 0, 1) := by decide +kernel
theorem dX5_period_44 : decode cX5_period 44 = .ok (.getfield 59, 3) := by decide +kernel
theorem dX5_period_47 : decode cX5_period 47 = .ok (.ifCond .le 5, 3) := by decide +kernel
theorem dX5_period_50 : decode cX5_period 50 = .ok (.iconst 0, 1) := by decide +kernel
theorem dX5_period_51 : decode cX5_period 51 = .ok (.ireturn, 1) := by decide +kernel
theorem dX5_period_52 : decode cX5_period 52 = .ok (.aload_n 0, 1) := by decide +kernel
theorem dX5_period_53 : decode cX5_period 53 = .ok (.iload_n 1, 1) := by decide +kernel
theorem dX5_period_54 : decode cX5_period 54 = .ok (.invokevirtual 256, 3) := by decide +kernel
theorem dX5_period_57 : decode cX5_period 57 = .ok (.aload_n 0, 1) := by decide +kernel
theorem dX5_period_58 : decode cX5_period 58 = .ok (.iload_n 2, 1) := by decide +kernel
theorem dX5_period_59 : decode cX5_period 59 = .ok (.invokevirtual 259, 3) := by decide +kernel
theorem dX5_period_62 : decode cX5_period 62 = .ok (.ireturn, 1) := by decide +kernel
set_option maxRecDepth 20000 in
theorem ggX5_layBeat_X5_layScreen : GoodIn wsX5_layBeat wsX5_layScreen := goodIn_r _ [8, 9, 10, 11, 12, 7, 13, 3, 1, 2, 14, 15, 16, 17, 18, 19, 20, 21, 22, 23, 24, 25, 26, 27, 28, 29, 30, 31, 32, 33, 34, 35, 36, 37, 38, 39, 40, 41, 42, 43, 44, 45, 46, 47, 48, 49, 50, 51, 52, 53, 54, 55, 56, 57, 58, 59, 60] (by decide +kernel) (by decide +kernel)
set_option maxRecDepth 20000 in
theorem gX5_layBeat_X5_layScreen : GoodIn wsX5_layBeat (wsV RX5 109 RX5 yX5_layScreen wsX5_layScreen) := goodIn_app (goodIn_of _ (by decide +kernel)) ggX5_layBeat_X5_layScreen
set_option maxRecDepth 20000 in
theorem ggX5_layBeat_X5_gcd : GoodIn wsX5_layBeat wsX5_gcd := goodIn_r _ [16, 17, 18, 7, 19] (by decide +kernel) (by decide +kernel)
set_option maxRecDepth 20000 in
theorem gX5_layBeat_X5_gcd : GoodIn wsX5_layBeat (va_wsS RX5 79 yX5_gcd wsX5_gcd) := goodIn_app (goodIn_of _ (by decide +kernel)) ggX5_layBeat_X5_gcd
set_option maxRecDepth 20000 in
theorem ggX5_layBeat_X5_mod : GoodIn wsX5_layBeat wsX5_mod := goodIn_r _ [25] (by decide +kernel) (by decide +kernel)
set_option maxRecDepth 20000 in
theorem gX5_layBeat_X5_mod : GoodIn wsX5_layBeat (va_wsS RX5 67 yX5_mod wsX5_mod) := goodIn_app (goodIn_of _ (by decide +kernel)) ggX5_layBeat_X5_mod
theorem dX5_layBeat_0 : decode cX5_layBeat 0 = .ok (.aload_n 0, 1) := by decide +kernel
theorem dX5_layBeat_1 : decode cX5_layBeat 1 = .ok (.iload_n 1, 1) := by decide +kernel
theorem dX5_layBeat_2 : decode cX5_layBeat 2 = .ok (.invokevirtual 109, 3) := by decide +kernel
theorem dX5_layBeat_5 : decode cX5_layBeat 5 = .ok (.aload_n 0, 1) := by decide +kernel
theorem dX5_layBeat_6 : decode cX5_layBeat 6 = .ok (.getfield 89, 3) := by decide +kernel
theorem dX5_layBeat_9 : decode cX5_layBeat 9 = .ok (.istore_n 3, 1) := by decide +kernel
theorem dX5_layBeat_10 : decode cX5_layBeat 10 = .ok (.aload_n 0, 1) := by decide +kernel
theorem dX5_layBeat_11 : decode cX5_layBeat 11 = .ok (.getfield 92, 3) := by decide +kernel
theorem dX5_layBeat_14 : decode cX5_layBeat 14 = .ok (.istore 4, 2) := by decide +kernel
theorem dX5_layBeat_16 : decode cX5_layBeat 16 = .ok (.aload_n 0, 1) := by decide +kernel
theorem dX5_layBeat_17 : decode cX5_layBeat 17 = .ok (.getfield 82, 3) := by decide +kernel
theorem dX5_layBeat_20 : decode cX5_layBeat 20 = .ok (.istore 5, 2) := by decide +kernel
theorem dX5_layBeat_22 : decode cX5_layBeat 22 = .ok (.aload_n 0, 1) := by decide +kernel
theorem dX5_layBeat_23 : decode cX5_layBeat 23 = .ok (.iload_n 2, 1) := by decide +kernel
theorem dX5_layBeat_24 : decode cX5_layBeat 24 = .ok (.invokevirtual 109, 3) := by decide +kernel
theorem dX5_layBeat_27 : decode cX5_layBeat 27 = .ok (.iload 5, 2) := by decide +kernel
theorem dX5_layBeat_29 : decode cX5_layBeat 29 = .ok (.aload_n 0, 1) := by decide +kernel
theorem dX5_layBeat_30 : decode cX5_layBeat 30 = .ok (.getfield 82, 3) := by decide +kernel
theorem dX5_layBeat_33 : decode cX5_layBeat 33 = .ok (.invokestatic 79, 3) := by decide +kernel
theorem dX5_layBeat_36 : decode cX5_layBeat 36 = .ok (.istore 6, 2) := by decide +kernel
theorem dX5_layBeat_38 : decode cX5_layBeat 38 = .ok (.iconst 0, 1) := by decide +kernel
theorem dX5_layBeat_39 : decode cX5_layBeat 39 = .ok (.istore 7, 2) := by decide +kernel
theorem dX5_layBeat_41 : decode cX5_layBeat 41 = .ok (.iload 6, 2) := by decide +kernel
theorem dX5_layBeat_43 : decode cX5_layBeat 43 = .ok (.iload 7, 2) := by decide +kernel
theorem dX5_layBeat_45 : decode cX5_layBeat 45 = .ok (.iload 5, 2) := by decide +kernel
theorem dX5_layBeat_47 : decode cX5_layBeat 47 = .ok (.imul, 1) := by decide +kernel
theorem dX5_layBeat_48 : decode cX5_layBeat 48 = .ok (.isub, 1) := by decide +kernel
theorem dX5_layBeat_49 : decode cX5_layBeat 49 = .ok (.aload_n 0, 1) := by decide +kernel
theorem dX5_layBeat_50 : decode cX5_layBeat 50 = .ok (.getfield 82, 3) := by decide +kernel
theorem dX5_layBeat_53 : decode cX5_layBeat 53 = .ok (.irem, 1) := by decide +kernel
theorem dX5_layBeat_54 : decode cX5_layBeat 54 = .ok (.ifCond .eq 9, 3) := by decide +kernel
theorem dX5_layBeat_57 : decode cX5_layBeat 57 = .ok (.iinc 7 1, 3) := by decide +kernel
theorem dX5_layBeat_60 : decode cX5_layBeat 60 = .ok (.goto (-19), 3) := by decide +kernel
theorem dX5_layBeat_63 : decode cX5_layBeat 63 = .ok (.iload 7, 2) := by decide +kernel
theorem dX5_layBeat_65 : decode cX5_layBeat 65 = .ok (.iload 4, 2) := by decide +kernel
theorem dX5_layBeat_67 : decode cX5_layBeat 67 = .ok (.imul, 1) := by decide +kernel
theorem dX5_layBeat_68 : decode cX5_layBeat 68 = .ok (.iload 6, 2) := by decide +kernel
theorem dX5_layBeat_70 : decode cX5_layBeat 70 = .ok (.iload 7, 2) := by decide +kernel
theorem dX5_layBeat_72 : decode cX5_layBeat 72 = .ok (.iload 5, 2) := by decide +kernel
theorem dX5_layBeat_74 : decode cX5_layBeat 74 = .ok (.imul, 1) := by decide +kernel
theorem dX5_layBeat_75 : decode cX5_layBeat 75 = .ok (.isub, 1) := by decide +kernel
theorem dX5_layBeat_76 : decode cX5_layBeat 76 = .ok (.aload_n 0, 1) := by decide +kernel
theorem dX5_layBeat_77 : decode cX5_layBeat 77 = .ok (.getfield 82, 3) := by decide +kernel
theorem dX5_layBeat_80 : decode cX5_layBeat 80 = .ok (.idiv, 1) := by decide +kernel
theorem dX5_layBeat_81 : decode cX5_layBeat 81 = .ok (.aload_n 0, 1) := by decide +kernel
theorem dX5_layBeat_82 : decode cX5_layBeat 82 = .ok (.getfield 92, 3) := by decide +kernel
theorem dX5_layBeat_85 : decode cX5_layBeat 85 = .ok (.imul, 1) := by decide +kernel
theorem dX5_layBeat_86 : decode cX5_layBeat 86 = .ok (.iadd, 1) := by decide +kernel
theorem dX5_layBeat_87 : decode cX5_layBeat 87 = .ok (.istore 8, 2) := by decide +kernel
theorem dX5_layBeat_89 : decode cX5_layBeat 89 = .ok (.iload_n 3, 1) := by decide +kernel
theorem dX5_layBeat_90 : decode cX5_layBeat 90 = .ok (.aload_n 0, 1) := by decide +kernel
theorem dX5_layBeat_91 : decode cX5_layBeat 91 = .ok (.getfield 89, 3) := by decide +kernel
theorem dX5_layBeat_94 : decode cX5_layBeat 94 = .ok (.invokestatic 79, 3) := by decide +kernel
theorem dX5_layBeat_97 : decode cX5_layBeat 97 = .ok (.iload 5, 2) := by decide +kernel
theorem dX5_layBeat_99 : decode cX5_layBeat 99 = .ok (.iload 6, 2) := by decide +kernel
theorem dX5_layBeat_101 : decode cX5_layBeat 101 = .ok (.idiv, 1) := by decide +kernel
theorem dX5_layBeat_102 : decode cX5_layBeat 102 = .ok (.iload 8, 2) := by decide +kernel
theorem dX5_layBeat_104 : decode cX5_layBeat 104 = .ok (.imul, 1) := by decide +kernel
theorem dX5_layBeat_105 : decode cX5_layBeat 105 = .ok (.iload 4, 2) := by decide +kernel
theorem dX5_layBeat_107 : decode cX5_layBeat 107 = .ok (.isub, 1) := by decide +kernel
theorem dX5_layBeat_108 : decode cX5_layBeat 108 = .ok (.aload_n 0, 1) := by decide +kernel
theorem dX5_layBeat_109 : decode cX5_layBeat 109 = .ok (.getfield 82, 3) := by decide +kernel
theorem dX5_layBeat_112 : decode cX5_layBeat 112 = .ok (.iload 6, 2) := by decide +kernel
theorem dX5_layBeat_114 : decode cX5_layBeat 114 = .ok (.idiv, 1) := by decide +kernel
theorem dX5_layBeat_115 : decode cX5_layBeat 115 = .ok (.iload 8, 2) := by decide +kernel
theorem dX5_layBeat_117 : decode cX5_layBeat 117 = .ok (.imul, 1) := by decide +kernel
theorem dX5_layBeat_118 : decode cX5_layBeat 118 = .ok (.aload_n 0, 1) := by decide +kernel
theorem dX5_layBeat_119 : decode cX5_layBeat 119 = .ok (.getfield 92, 3) := by decide +kernel
theorem dX5_layBeat_122 : decode cX5_layBeat 122 = .ok (.isub, 1) := by decide +kernel
theorem dX5_layBeat_123 : decode cX5_layBeat 123 = .ok (.invokestatic 79, 3) := by decide +kernel
theorem dX5_layBeat_126 : decode cX5_layBeat 126 = .ok (.invokestatic 79, 3) := by decide +kernel
theorem dX5_layBeat_129 : decode cX5_layBeat 129 = .ok (.istore 9, 2) := by decide +kernel
theorem dX5_layBeat_131 : decode cX5_layBeat 131 = .ok (.aload_n 0, 1) := by decide +kernel
theorem dX5_layBeat_132 : decode cX5_layBeat 132 = .ok (.iload 9, 2) := by decide +kernel
theorem dX5_layBeat_134 : decode cX5_layBeat 134 = .ok (.putfield 89, 3) := by decide +kernel
theorem dX5_layBeat_137 : decode cX5_layBeat 137 = .ok (.aload_n 0, 1) := by decide +kernel
theorem dX5_layBeat_138 : decode cX5_layBeat 138 = .ok (.iload 6, 2) := by decide +kernel
theorem dX5_layBeat_140 : decode cX5_layBeat 140 = .ok (.putfield 82, 3) := by decide +kernel
theorem dX5_layBeat_143 : decode cX5_layBeat 143 = .ok (.aload_n 0, 1) := by decide +kernel
theorem dX5_layBeat_144 : decode cX5_layBeat 144 = .ok (.iload 8, 2) := by decide +kernel
theorem dX5_layBeat_146 : decode cX5_layBeat 146 = .ok (.iload 9, 2) := by decide +kernel
theorem dX5_layBeat_148 : decode cX5_layBeat 148 = .ok (.invokestatic 67, 3) := by decide +kernel
theorem dX5_layBeat_151 : decode cX5_layBeat 151 = .ok (.putfield 92, 3) := by decide +kernel
theorem dX5_layBeat_154 : decode cX5_layBeat 154 = .ok (.return_, 1) := by decide +kernel
set_option maxRecDepth 20000 in
theorem ggX5_beat_X5_isSlot : GoodIn wsX5_beat wsX5_isSlot := goodIn_r _ [6, 7, 8, 5, 9] (by decide +kernel) (by decide +kernel)
set_option maxRecDepth 20000 in
theorem gX5_beat_X5_isSlot : GoodIn wsX5_beat (va_wsS RX5 75 yX5_isSlot wsX5_isSlot) := goodIn_app (goodIn_of _ (by decide +kernel)) ggX5_beat_X5_isSlot
set_option maxRecDepth 20000 in
theorem ggX5_beat_X5_within : GoodIn wsX5_beat wsX5_within := goodIn_r _ [9] (by decide +kernel) (by decide +kernel)
set_option maxRecDepth 20000 in
theorem gX5_beat_X5_within : GoodIn wsX5_beat (va_wsS RX5 71 yX5_within wsX5_within) := goodIn_app (goodIn_of _ (by decide +kernel)) ggX5_beat_X5_within
set_option maxRecDepth 20000 in
theorem ggX5_beat_X5_layBeat : GoodIn wsX5_beat wsX5_layBeat := goodIn_r _ [13, 14, 15, 16, 17, 18, 19, 5, 20, 21, 22, 23, 24, 25, 26, 27, 28, 29, 30, 31, 32, 33, 34, 35, 36, 37, 42, 43, 44, 45, 46, 47, 48, 49, 50, 51, 52, 53, 54, 55, 56, 57, 58, 59, 60, 61, 62, 63, 64, 65, 66, 67, 68, 69, 70, 71, 72, 73, 74, 75, 76] (by decide +kernel) (by decide +kernel)
set_option maxRecDepth 20000 in
theorem gX5_beat_X5_layBeat : GoodIn wsX5_beat (wsV RX5 262 RX5 yX5_layBeat wsX5_layBeat) := goodIn_app (goodIn_of _ (by decide +kernel)) ggX5_beat_X5_layBeat
set_option maxRecDepth 20000 in
theorem ggX5_beat_X5_numberOf : GoodIn wsX5_beat wsX5_numberOf := goodIn_r _ [41, 14, 16, 15, 42, 43, 44, 45, 46, 47, 48, 49, 50, 51, 52, 53, 54, 55, 56, 57, 58, 59, 60, 61, 62, 63, 64, 65, 66, 67, 68, 69, 70, 71, 72, 73, 74, 75, 76] (by decide +kernel) (by decide +kernel)
set_option maxRecDepth 20000 in
theorem gX5_beat_X5_numberOf : GoodIn wsX5_beat (wsV RX5 259 RX5 yX5_numberOf wsX5_numberOf) := goodIn_app (goodIn_of _ (by decide +kernel)) ggX5_beat_X5_numberOf
theorem dX5_beat_0 : decode cX5_beat 0 = .ok (.iload_n 1, 1) := by decide +kernel
theorem dX5_beat_1 : decode cX5_beat 1 = .ok (.invokestatic 75, 3) := by decide +kernel
theorem dX5_beat_4 : decode cX5_beat 4 = .ok (.ifCond .eq 14, 3) := by decide +kernel
theorem dX5_beat_7 : decode cX5_beat 7 = .ok (.iload_n 2, 1) := by decide +kernel
theorem dX5_beat_8 : decode cX5_beat 8 = .ok (.invokestatic 75, 3) := by decide +kernel
theorem dX5_beat_11 : decode cX5_beat 11 = .ok (.ifCond .eq 7, 3) := by decide +kernel
theorem dX5_beat_14 : decode cX5_beat 14 = .ok (.iconst 1, 1) := by decide +kernel
theorem dX5_beat_15 : decode cX5_beat 15 = .ok (.goto 4, 3) := by decide +kernel
theorem dX5_beat_18 : decode cX5_beat 18 = .ok (.iconst 0, 1) := by decide +kernel
theorem dX5_beat_19 : decode cX5_beat 19 = .ok (.istore 4, 2) := by decide +kernel
theorem dX5_beat_21 : decode cX5_beat 21 = .ok (.aload_n 0, 1) := by decide +kernel
theorem dX5_beat_22 : decode cX5_beat 22 = .ok (.iload 4, 2) := by decide +kernel
theorem dX5_beat_24 : decode cX5_beat 24 = .ok (.ifCond .ne 7, 3) := by decide +kernel
theorem dX5_beat_27 : decode cX5_beat 27 = .ok (.iconst 1, 1) := by decide +kernel
theorem dX5_beat_28 : decode cX5_beat 28 = .ok (.goto 39, 3) := by decide +kernel
theorem dX5_beat_31 : decode cX5_beat 31 = .ok (.iload_n 3, 1) := by decide +kernel
theorem dX5_beat_32 : decode cX5_beat 32 = .ok (.iconst 0, 1) := by decide +kernel
theorem dX5_beat_33 : decode cX5_beat 33 = .ok (.iconst 3, 1) := by decide +kernel
theorem dX5_beat_34 : decode cX5_beat 34 = .ok (.invokestatic 71, 3) := by decide +kernel
theorem dX5_beat_37 : decode cX5_beat 37 = .ok (.ifCond .ne 7, 3) := by decide +kernel
theorem dX5_beat_40 : decode cX5_beat 40 = .ok (.iconst 2, 1) := by decide +kernel
theorem dX5_beat_41 : decode cX5_beat 41 = .ok (.goto 26, 3) := by decide +kernel
theorem dX5_beat_44 : decode cX5_beat 44 = .ok (.aload_n 0, 1) := by decide +kernel
theorem dX5_beat_45 : decode cX5_beat 45 = .ok (.getfield 7, 3) := by decide +kernel
theorem dX5_beat_48 : decode cX5_beat 48 = .ok (.iload_n 1, 1) := by decide +kernel
theorem dX5_beat_49 : decode cX5_beat 49 = .ok (.baload, 1) := by decide +kernel
theorem dX5_beat_50 : decode cX5_beat 50 = .ok (.ifCond .eq 16, 3) := by decide +kernel
theorem dX5_beat_53 : decode cX5_beat 53 = .ok (.aload_n 0, 1) := by decide +kernel
theorem dX5_beat_54 : decode cX5_beat 54 = .ok (.getfield 7, 3) := by decide +kernel
theorem dX5_beat_57 : decode cX5_beat 57 = .ok (.iload_n 2, 1) := by decide +kernel
theorem dX5_beat_58 : decode cX5_beat 58 = .ok (.baload, 1) := by decide +kernel
theorem dX5_beat_59 : decode cX5_beat 59 = .ok (.ifCond .eq 7, 3) := by decide +kernel
theorem dX5_beat_62 : decode cX5_beat 62 = .ok (.iconst 0, 1) := by decide +kernel
theorem dX5_beat_63 : decode cX5_beat 63 = .ok (.goto 4, 3) := by decide +kernel
theorem dX5_beat_66 : decode cX5_beat 66 = .ok (.iconst 3, 1) := by decide +kernel
theorem dX5_beat_67 : decode cX5_beat 67 = .ok (.putfield 59, 3) := by decide +kernel
theorem dX5_beat_70 : decode cX5_beat 70 = .ok (.aload_n 0, 1) := by decide +kernel
theorem dX5_beat_71 : decode cX5_beat 71 = .ok (.getfield 59, 3) := by decide +kernel
theorem dX5_beat_74 : decode cX5_beat 74 = .ok (.ifCond .le 5, 3) := by decide +kernel
theorem dX5_beat_77 : decode cX5_beat 77 = .ok (.iconst 0, 1) := by decide +kernel
theorem dX5_beat_78 : decode cX5_beat 78 = .ok (.ireturn, 1) := by decide +kernel
theorem dX5_beat_79 : decode cX5_beat 79 = .ok (.aload_n 0, 1) := by decide +kernel
theorem dX5_beat_80 : decode cX5_beat 80 = .ok (.iload_n 1, 1) := by decide +kernel
theorem dX5_beat_81 : decode cX5_beat 81 = .ok (.iload_n 2, 1) := by decide +kernel
theorem dX5_beat_82 : decode cX5_beat 82 = .ok (.invokevirtual 262, 3) := by decide +kernel
theorem dX5_beat_85 : decode cX5_beat 85 = .ok (.aload_n 0, 1) := by decide +kernel
theorem dX5_beat_86 : decode cX5_beat 86 = .ok (.iload_n 3, 1) := by decide +kernel
theorem dX5_beat_87 : decode cX5_beat 87 = .ok (.invokevirtual 259, 3) := by decide +kernel
theorem dX5_beat_90 : decode cX5_beat 90 = .ok (.ireturn, 1) := by decide +kernel
set_option maxRecDepth 20000 in
theorem ggX5_mixed_X5_layAll : GoodIn wsX5_mixed wsX5_layAll := goodIn_r _ [5, 6, 7, 8, 9, 10, 11, 12, 13, 14, 15, 16, 4, 17, 18, 19, 20, 21, 22, 23, 24, 25, 26, 27, 28, 29, 30, 31, 32, 33, 34, 35, 36, 37, 38, 39, 40, 41, 42, 43, 44, 45, 46, 47, 48, 49, 50, 51, 52, 53, 54, 55, 56, 70, 71, 72, 73, 74, 75, 76, 77, 78, 79, 80, 81, 82, 83, 84, 85, 86, 87, 88, 89, 90, 91, 92, 93, 94, 95, 96, 97, 98, 99, 100, 101, 102, 103, 104] (by decide +kernel) (by decide +kernel)
set_option maxRecDepth 20000 in
theorem gX5_mixed_X5_layAll : GoodIn wsX5_mixed (wsV RX5 207 RX5 yX5_layAll wsX5_layAll) := goodIn_app (goodIn_of _ (by decide +kernel)) ggX5_mixed_X5_layAll
set_option maxRecDepth 20000 in
theorem ggX5_mixed_X5_inksAt : GoodIn wsX5_mixed wsX5_inksAt := goodIn_r _ [60, 6, 61, 62, 63, 4, 64, 10, 11, 12, 13, 8, 65, 66, 67, 68, 69, 54, 55, 56, 37, 38, 39, 70, 71, 72, 73, 74, 75, 76, 77, 78, 79, 80, 81, 82, 83, 84, 85, 86, 87, 88, 89, 90, 91, 92, 93, 94, 95, 96, 97, 98, 99, 100, 101, 102, 103, 104] (by decide +kernel) (by decide +kernel)
set_option maxRecDepth 20000 in
theorem gX5_mixed_X5_inksAt : GoodIn wsX5_mixed (wsV RX5 210 RX5 yX5_inksAt wsX5_inksAt) := goodIn_app (goodIn_of _ (by decide +kernel)) ggX5_mixed_X5_inksAt
theorem dX5_mixed_0 : decode cX5_mixed 0 = .ok (.aload_n 0, 1) := by decide +kernel
theorem dX5_mixed_1 : decode cX5_mixed 1 = .ok (.invokevirtual 207, 3) := by decide +kernel
theorem dX5_mixed_4 : decode cX5_mixed 4 = .ok (.iconst 0, 1) := by decide +kernel
theorem dX5_mixed_5 : decode cX5_mixed 5 = .ok (.istore 4, 2) := by decide +kernel
theorem dX5_mixed_7 : decode cX5_mixed 7 = .ok (.iconst 0, 1) := by decide +kernel
theorem dX5_mixed_8 : decode cX5_mixed 8 = .ok (.istore 5, 2) := by decide +kernel
theorem dX5_mixed_10 : decode cX5_mixed 10 = .ok (.iload 5, 2) := by decide +kernel
theorem dX5_mixed_12 : decode cX5_mixed 12 = .ok (.iload_n 2, 1) := by decide +kernel
theorem dX5_mixed_13 : decode cX5_mixed 13 = .ok (.iload_n 3, 1) := by decide +kernel
theorem dX5_mixed_14 : decode cX5_mixed 14 = .ok (.imul, 1) := by decide +kernel
theorem dX5_mixed_15 : decode cX5_mixed 15 = .ok (.if_icmp .ge 35, 3) := by decide +kernel
theorem dX5_mixed_18 : decode cX5_mixed 18 = .ok (.iload 4, 2) := by decide +kernel
theorem dX5_mixed_20 : decode cX5_mixed 20 = .ok (.aload_n 0, 1) := by decide +kernel
theorem dX5_mixed_21 : decode cX5_mixed 21 = .ok (.iload 5, 2) := by decide +kernel
theorem dX5_mixed_23 : decode cX5_mixed 23 = .ok (.iload_n 2, 1) := by decide +kernel
theorem dX5_mixed_24 : decode cX5_mixed 24 = .ok (.irem, 1) := by decide +kernel
theorem dX5_mixed_25 : decode cX5_mixed 25 = .ok (.iload 5, 2) := by decide +kernel
theorem dX5_mixed_27 : decode cX5_mixed 27 = .ok (.iload_n 2, 1) := by decide +kernel
theorem dX5_mixed_28 : decode cX5_mixed 28 = .ok (.idiv, 1) := by decide +kernel
theorem dX5_mixed_29 : decode cX5_mixed 29 = .ok (.invokevirtual 210, 3) := by decide +kernel
theorem dX5_mixed_32 : decode cX5_mixed 32 = .ok (.iload_n 1, 1) := by decide +kernel
theorem dX5_mixed_33 : decode cX5_mixed 33 = .ok (.if_icmp .ne 7, 3) := by decide +kernel
theorem dX5_mixed_36 : decode cX5_mixed 36 = .ok (.iconst 1, 1) := by decide +kernel
theorem dX5_mixed_37 : decode cX5_mixed 37 = .ok (.goto 4, 3) := by decide +kernel
theorem dX5_mixed_40 : decode cX5_mixed 40 = .ok (.iconst 0, 1) := by decide +kernel
theorem dX5_mixed_41 : decode cX5_mixed 41 = .ok (.iadd, 1) := by decide +kernel
theorem dX5_mixed_42 : decode cX5_mixed 42 = .ok (.istore 4, 2) := by decide +kernel
theorem dX5_mixed_44 : decode cX5_mixed 44 = .ok (.iinc 5 1, 3) := by decide +kernel
theorem dX5_mixed_47 : decode cX5_mixed 47 = .ok (.goto (-37), 3) := by decide +kernel
theorem dX5_mixed_50 : decode cX5_mixed 50 = .ok (.iload 4, 2) := by decide +kernel
theorem dX5_mixed_52 : decode cX5_mixed 52 = .ok (.ireturn, 1) := by decide +kernel
set_option maxRecDepth 20000 in
theorem ggX5_mixture_X5_within : GoodIn wsX5_mixture wsX5_within := goodIn_r _ [7] (by decide +kernel) (by decide +kernel)
set_option maxRecDepth 20000 in
theorem gX5_mixture_X5_within : GoodIn wsX5_mixture (va_wsS RX5 71 yX5_within wsX5_within) := goodIn_app (goodIn_of _ (by decide +kernel)) ggX5_mixture_X5_within
set_option maxRecDepth 20000 in
theorem ggX5_mixture_X5_there : GoodIn wsX5_mixture wsX5_there := goodIn_r _ [11, 12, 90, 91, 92, 93, 94, 95, 96, 97, 98, 99, 100, 101, 102, 103, 104, 105, 106, 107, 108, 109, 110, 111, 112, 113, 114, 115, 116, 117, 118, 119, 120, 121, 122, 123, 124] (by decide +kernel) (by decide +kernel)
set_option maxRecDepth 20000 in
theorem gX5_mixture_X5_there : GoodIn wsX5_mixture (wsV RX5 253 RX5 yX5_there wsX5_there) := goodIn_app (goodIn_of _ (by decide +kernel)) ggX5_mixture_X5_there
set_option maxRecDepth 20000 in
theorem ggX5_mixture_X5_layPeriod : GoodIn wsX5_mixture wsX5_layPeriod := goodIn_r _ [16, 2, 17, 3, 18, 19, 20, 6, 21, 22, 23, 24, 25, 26, 27, 28, 29, 30, 31, 32, 33, 34, 35, 36, 37, 38, 39, 40, 41, 42, 90, 91, 92, 93, 94, 95, 96, 97, 98, 99, 100, 101, 102, 103, 104, 105, 106, 107, 108, 109, 110, 111, 112, 113, 114, 115, 116, 117, 118, 119, 120, 121, 122, 123, 124] (by decide +kernel) (by decide +kernel)
set_option maxRecDepth 20000 in
theorem gX5_mixture_X5_layPeriod : GoodIn wsX5_mixture (wsV RX5 256 RX5 yX5_layPeriod wsX5_layPeriod) := goodIn_app (goodIn_of _ (by decide +kernel)) ggX5_mixture_X5_layPeriod
set_option maxRecDepth 20000 in
theorem ggX5_mixture_X5_mixed : GoodIn wsX5_mixture wsX5_mixed := goodIn_r _ [46, 47, 48, 49, 6, 50, 12, 51, 52, 53, 54, 2, 17, 3, 55, 56, 57, 58, 59, 18, 19, 20, 21, 22, 23, 24, 25, 26, 27, 28, 29, 30, 31, 32, 33, 34, 35, 36, 37, 38, 60, 61, 62, 63, 64, 65, 66, 67, 68, 69, 70, 71, 72, 73, 74, 75, 76, 77, 78, 79, 80, 81, 82, 83, 84, 85, 86, 87, 88, 89, 90, 91, 92, 93, 94, 95, 96, 97, 98, 99, 100, 101, 102, 103, 104, 105, 106, 107, 108, 109, 110, 111, 112, 113, 114, 115, 116, 117, 118, 119, 120, 121, 122, 123, 124] (by decide +kernel) (by decide +kernel)
set_option maxRecDepth 20000 in
theorem gX5_mixture_X5_mixed : GoodIn wsX5_mixture (wsV RX5 265 RX5 yX5_mixed wsX5_mixed) := goodIn_app (goodIn_of _ (by decide +kernel)) ggX5_mixture_X5_mixed
theorem dX5_mixture_0 : decode cX5_mixture 0 = .ok (.aload_n 0, 1) := by decide +kernel
theorem dX5_mixture_1 : decode cX5_mixture 1 = .ok (.iload_n 1, 1) := by decide +kernel
theorem dX5_mixture_2 : decode cX5_mixture 2 = .ok (.iconst 0, 1) := by decide +kernel
theorem dX5_mixture_3 : decode cX5_mixture 3 = .ok (.bipush 7, 2) := by decide +kernel
theorem dX5_mixture_5 : decode cX5_mixture 5 = .ok (.invokestatic 71, 3) := by decide +kernel
theorem dX5_mixture_8 : decode cX5_mixture 8 = .ok (.ifCond .ne 7, 3) := by decide +kernel
theorem dX5_mixture_11 : decode cX5_mixture 11 = .ok (.iconst 1, 1) := by decide +kernel
theorem dX5_mixture_12 : decode cX5_mixture 12 = .ok (.goto 15, 3) := by decide +kernel
theorem dX5_mixture_15 : decode cX5_mixture 15 = .ok (.aload_n 0, 1) := by decide +kernel
theorem dX5_mixture_16 : decode cX5_mixture 16 = .ok (.invokevirtual 253, 3) := by decide +kernel
theorem dX5_mixture_19 : decode cX5_mixture 19 = .ok (.ifCond .ne 7, 3) := by decide +kernel
theorem dX5_mixture_22 : decode cX5_mixture 22 = .ok (.iconst 2, 1) := by decide +kernel
theorem dX5_mixture_23 : decode cX5_mixture 23 = .ok (.goto 4, 3) := by decide +kernel
theorem dX5_mixture_26 : decode cX5_mixture 26 = .ok (.iconst 0, 1) := by decide +kernel
theorem dX5_mixture_27 : decode cX5_mixture 27 = .ok (.putfield 59, 3) := by decide +kernel
theorem dX5_mixture_30 : decode cX5_mixture 30 = .ok (.aload_n 0, 1) := by decide +kernel
theorem dX5_mixture_31 : decode cX5_mixture 31 = .ok (.getfield 59, 3) := by decide +kernel
theorem dX5_mixture_34 : decode cX5_mixture 34 = .ok (.ifCond .le 5, 3) := by decide +kernel
theorem dX5_mixture_37 : decode cX5_mixture 37 = .ok (.iconst 0, 1) := by decide +kernel
theorem dX5_mixture_38 : decode cX5_mixture 38 = .ok (.ireturn, 1) := by decide +kernel
theorem dX5_mixture_39 : decode cX5_mixture 39 = .ok (.aload_n 0, 1) := by decide +kernel
theorem dX5_mixture_40 : decode cX5_mixture 40 = .ok (.aload_n 0, 1) := by decide +kernel
theorem dX5_mixture_41 : decode cX5_mixture 41 = .ok (.invokevirtual 253, 3) := by decide +kernel
theorem dX5_mixture_44 : decode cX5_mixture 44 = .ok (.invokevirtual 256, 3) := by decide +kernel
theorem dX5_mixture_47 : decode cX5_mixture 47 = .ok (.aload_n 0, 1) := by decide +kernel
theorem dX5_mixture_48 : decode cX5_mixture 48 = .ok (.aload_n 0, 1) := by decide +kernel
theorem dX5_mixture_49 : decode cX5_mixture 49 = .ok (.getfield 89, 3) := by decide +kernel
theorem dX5_mixture_52 : decode cX5_mixture 52 = .ok (.aload_n 0, 1) := by decide +kernel
theorem dX5_mixture_53 : decode cX5_mixture 53 = .ok (.getfield 82, 3) := by decide +kernel
theorem dX5_mixture_56 : decode cX5_mixture 56 = .ok (.imul, 1) := by decide +kernel
theorem dX5_mixture_57 : decode cX5_mixture 57 = .ok (.sipush 4096, 3) := by decide +kernel
theorem dX5_mixture_60 : decode cX5_mixture 60 = .ok (.if_icmp .le 7, 3) := by decide +kernel
theorem dX5_mixture_63 : decode cX5_mixture 63 = .ok (.iconst 2, 1) := by decide +kernel
theorem dX5_mixture_64 : decode cX5_mixture 64 = .ok (.goto 4, 3) := by decide +kernel
theorem dX5_mixture_67 : decode cX5_mixture 67 = .ok (.iconst 0, 1) := by decide +kernel
theorem dX5_mixture_68 : decode cX5_mixture 68 = .ok (.putfield 59, 3) := by decide +kernel
theorem dX5_mixture_71 : decode cX5_mixture 71 = .ok (.aload_n 0, 1) := by decide +kernel
theorem dX5_mixture_72 : decode cX5_mixture 72 = .ok (.getfield 59, 3) := by decide +kernel
theorem dX5_mixture_75 : decode cX5_mixture 75 = .ok (.ifCond .le 7, 3) := by decide +kernel
theorem dX5_mixture_78 : decode cX5_mixture 78 = .ok (.iconst 0, 1) := by decide +kernel
theorem dX5_mixture_79 : decode cX5_mixture 79 = .ok (.goto 16, 3) := by decide +kernel
theorem dX5_mixture_82 : decode cX5_mixture 82 = .ok (.aload_n 0, 1) := by decide +kernel
theorem dX5_mixture_83 : decode cX5_mixture 83 = .ok (.iload_n 1, 1) := by decide +kernel
theorem dX5_mixture_84 : decode cX5_mixture 84 = .ok (.aload_n 0, 1) := by decide +kernel
theorem dX5_mixture_85 : decode cX5_mixture 85 = .ok (.getfield 89, 3) := by decide +kernel
theorem dX5_mixture_88 : decode cX5_mixture 88 = .ok (.aload_n 0, 1) := by decide +kernel
theorem dX5_mixture_89 : decode cX5_mixture 89 = .ok (.getfield 82, 3) := by decide +kernel
theorem dX5_mixture_92 : decode cX5_mixture 92 = .ok (.invokevirtual 265, 3) := by decide +kernel
theorem dX5_mixture_95 : decode cX5_mixture 95 = .ok (.ireturn, 1) := by decide +kernel
set_option maxRecDepth 20000 in
theorem ggX5_isNearer_X5_abs : GoodIn wsX5_isNearer wsX5_abs := goodIn_r _ [4] (by decide +kernel) (by decide +kernel)
set_option maxRecDepth 20000 in
theorem gX5_isNearer_X5_abs : GoodIn wsX5_isNearer (va_wsS RX5 63 yX5_abs wsX5_abs) := goodIn_app (goodIn_of _ (by decide +kernel)) ggX5_isNearer_X5_abs
theorem dX5_isNearer_0 : decode cX5_isNearer 0 = .ok (.iload_n 0, 1) := by decide +kernel
theorem dX5_isNearer_1 : decode cX5_isNearer 1 = .ok (.iload 4, 2) := by decide +kernel
theorem dX5_isNearer_3 : decode cX5_isNearer 3 = .ok (.imul, 1) := by decide +kernel
theorem dX5_isNearer_4 : decode cX5_isNearer 4 = .ok (.iload_n 1, 1) := by decide +kernel
theorem dX5_isNearer_5 : decode cX5_isNearer 5 = .ok (.iload 5, 2) := by decide +kernel
theorem dX5_isNearer_7 : decode cX5_isNearer 7 = .ok (.imul, 1) := by decide +kernel
theorem dX5_isNearer_8 : decode cX5_isNearer 8 = .ok (.isub, 1) := by decide +kernel
theorem dX5_isNearer_9 : decode cX5_isNearer 9 = .ok (.invokestatic 63, 3) := by decide +kernel
theorem dX5_isNearer_12 : decode cX5_isNearer 12 = .ok (.istore 6, 2) := by decide +kernel
theorem dX5_isNearer_14 : decode cX5_isNearer 14 = .ok (.iload_n 2, 1) := by decide +kernel
theorem dX5_isNearer_15 : decode cX5_isNearer 15 = .ok (.iload 4, 2) := by decide +kernel
theorem dX5_isNearer_17 : decode cX5_isNearer 17 = .ok (.imul, 1) := by decide +kernel
theorem dX5_isNearer_18 : decode cX5_isNearer 18 = .ok (.iload_n 3, 1) := by decide +kernel
theorem dX5_isNearer_19 : decode cX5_isNearer 19 = .ok (.iload 5, 2) := by decide +kernel
theorem dX5_isNearer_21 : decode cX5_isNearer 21 = .ok (.imul, 1) := by decide +kernel
theorem dX5_isNearer_22 : decode cX5_isNearer 22 = .ok (.isub, 1) := by decide +kernel
theorem dX5_isNearer_23 : decode cX5_isNearer 23 = .ok (.invokestatic 63, 3) := by decide +kernel
theorem dX5_isNearer_26 : decode cX5_isNearer 26 = .ok (.istore 7, 2) := by decide +kernel
theorem dX5_isNearer_28 : decode cX5_isNearer 28 = .ok (.iload_n 0, 1) := by decide +kernel
theorem dX5_isNearer_29 : decode cX5_isNearer 29 = .ok (.iload_n 0, 1) := by decide +kernel
theorem dX5_isNearer_30 : decode cX5_isNearer 30 = .ok (.imul, 1) := by decide +kernel
theorem dX5_isNearer_31 : decode cX5_isNearer 31 = .ok (.iload_n 1, 1) := by decide +kernel
theorem dX5_isNearer_32 : decode cX5_isNearer 32 = .ok (.iload_n 1, 1) := by decide +kernel
theorem dX5_isNearer_33 : decode cX5_isNearer 33 = .ok (.imul, 1) := by decide +kernel
theorem dX5_isNearer_34 : decode cX5_isNearer 34 = .ok (.iadd, 1) := by decide +kernel
theorem dX5_isNearer_35 : decode cX5_isNearer 35 = .ok (.istore 8, 2) := by decide +kernel
theorem dX5_isNearer_37 : decode cX5_isNearer 37 = .ok (.iload_n 2, 1) := by decide +kernel
theorem dX5_isNearer_38 : decode cX5_isNearer 38 = .ok (.iload_n 2, 1) := by decide +kernel
theorem dX5_isNearer_39 : decode cX5_isNearer 39 = .ok (.imul, 1) := by decide +kernel
theorem dX5_isNearer_40 : decode cX5_isNearer 40 = .ok (.iload_n 3, 1) := by decide +kernel
theorem dX5_isNearer_41 : decode cX5_isNearer 41 = .ok (.iload_n 3, 1) := by decide +kernel
theorem dX5_isNearer_42 : decode cX5_isNearer 42 = .ok (.imul, 1) := by decide +kernel
theorem dX5_isNearer_43 : decode cX5_isNearer 43 = .ok (.iadd, 1) := by decide +kernel
theorem dX5_isNearer_44 : decode cX5_isNearer 44 = .ok (.istore 9, 2) := by decide +kernel
theorem dX5_isNearer_46 : decode cX5_isNearer 46 = .ok (.iload 6, 2) := by decide +kernel
theorem dX5_isNearer_48 : decode cX5_isNearer 48 = .ok (.i2l, 1) := by decide +kernel
theorem dX5_isNearer_49 : decode cX5_isNearer 49 = .ok (.iload 6, 2) := by decide +kernel
theorem dX5_isNearer_51 : decode cX5_isNearer 51 = .ok (.i2l, 1) := by decide +kernel
theorem dX5_isNearer_52 : decode cX5_isNearer 52 = .ok (.lmul, 1) := by decide +kernel
theorem dX5_isNearer_53 : decode cX5_isNearer 53 = .ok (.iload 9, 2) := by decide +kernel
theorem dX5_isNearer_55 : decode cX5_isNearer 55 = .ok (.i2l, 1) := by decide +kernel
theorem dX5_isNearer_56 : decode cX5_isNearer 56 = .ok (.lmul, 1) := by decide +kernel
theorem dX5_isNearer_57 : decode cX5_isNearer 57 = .ok (.lstore 10, 2) := by decide +kernel
theorem dX5_isNearer_59 : decode cX5_isNearer 59 = .ok (.iload 7, 2) := by decide +kernel
theorem dX5_isNearer_61 : decode cX5_isNearer 61 = .ok (.i2l, 1) := by decide +kernel
theorem dX5_isNearer_62 : decode cX5_isNearer 62 = .ok (.iload 7, 2) := by decide +kernel
theorem dX5_isNearer_64 : decode cX5_isNearer 64 = .ok (.i2l, 1) := by decide +kernel
theorem dX5_isNearer_65 : decode cX5_isNearer 65 = .ok (.lmul, 1) := by decide +kernel
theorem dX5_isNearer_66 : decode cX5_isNearer 66 = .ok (.iload 8, 2) := by decide +kernel
theorem dX5_isNearer_68 : decode cX5_isNearer 68 = .ok (.i2l, 1) := by decide +kernel
theorem dX5_isNearer_69 : decode cX5_isNearer 69 = .ok (.lmul, 1) := by decide +kernel
theorem dX5_isNearer_70 : decode cX5_isNearer 70 = .ok (.lstore 12, 2) := by decide +kernel
theorem dX5_isNearer_72 : decode cX5_isNearer 72 = .ok (.lload 10, 2) := by decide +kernel
theorem dX5_isNearer_74 : decode cX5_isNearer 74 = .ok (.lload 12, 2) := by decide +kernel
theorem dX5_isNearer_76 : decode cX5_isNearer 76 = .ok (.lcmp, 1) := by decide +kernel
theorem dX5_isNearer_77 : decode cX5_isNearer 77 = .ok (.ifCond .lt 30, 3) := by decide +kernel
theorem dX5_isNearer_80 : decode cX5_isNearer 80 = .ok (.lload 10, 2) := by decide +kernel
theorem dX5_isNearer_82 : decode cX5_isNearer 82 = .ok (.lload 12, 2) := by decide +kernel
theorem dX5_isNearer_84 : decode cX5_isNearer 84 = .ok (.lcmp, 1) := by decide +kernel
theorem dX5_isNearer_85 : decode cX5_isNearer 85 = .ok (.ifCond .ne 26, 3) := by decide +kernel
theorem dX5_isNearer_88 : decode cX5_isNearer 88 = .ok (.iload 8, 2) := by decide +kernel
theorem dX5_isNearer_90 : decode cX5_isNearer 90 = .ok (.iload 9, 2) := by decide +kernel
theorem dX5_isNearer_92 : decode cX5_isNearer 92 = .ok (.if_icmp .lt 15, 3) := by decide +kernel
theorem dX5_isNearer_95 : decode cX5_isNearer 95 = .ok (.iload 8, 2) := by decide +kernel
theorem dX5_isNearer_97 : decode cX5_isNearer 97 = .ok (.iload 9, 2) := by decide +kernel
theorem dX5_isNearer_99 : decode cX5_isNearer 99 = .ok (.if_icmp .ne 12, 3) := by decide +kernel
theorem dX5_isNearer_102 : decode cX5_isNearer 102 = .ok (.iload_n 0, 1) := by decide +kernel
theorem dX5_isNearer_103 : decode cX5_isNearer 103 = .ok (.iload_n 2, 1) := by decide +kernel
theorem dX5_isNearer_104 : decode cX5_isNearer 104 = .ok (.if_icmp .ge 7, 3) := by decide +kernel
theorem dX5_isNearer_107 : decode cX5_isNearer 107 = .ok (.iconst 1, 1) := by decide +kernel
theorem dX5_isNearer_108 : decode cX5_isNearer 108 = .ok (.goto 4, 3) := by decide +kernel
theorem dX5_isNearer_111 : decode cX5_isNearer 111 = .ok (.iconst 0, 1) := by decide +kernel
theorem dX5_isNearer_112 : decode cX5_isNearer 112 = .ok (.ireturn, 1) := by decide +kernel
set_option maxRecDepth 20000 in
theorem ggX5_nearest_X5_within : GoodIn wsX5_nearest wsX5_within := goodIn_r _ [5] (by decide +kernel) (by decide +kernel)
set_option maxRecDepth 20000 in
theorem gX5_nearest_X5_within : GoodIn wsX5_nearest (va_wsS RX5 71 yX5_within wsX5_within) := goodIn_app (goodIn_of _ (by decide +kernel)) ggX5_nearest_X5_within
set_option maxRecDepth 20000 in
theorem ggX5_nearest_X5_isNearer : GoodIn wsX5_nearest wsX5_isNearer := goodIn_r _ [8, 9, 10, 4, 11] (by decide +kernel) (by decide +kernel)
set_option maxRecDepth 20000 in
theorem gX5_nearest_X5_isNearer : GoodIn wsX5_nearest (va_wsS RX5 268 yX5_isNearer wsX5_isNearer) := goodIn_app (goodIn_of _ (by decide +kernel)) ggX5_nearest_X5_isNearer
set_option maxRecDepth 20000 in
theorem ggX5_nearest_X5_abs : GoodIn wsX5_nearest wsX5_abs := goodIn_r _ [11] (by decide +kernel) (by decide +kernel)
set_option maxRecDepth 20000 in
theorem gX5_nearest_X5_abs : GoodIn wsX5_nearest (va_wsS RX5 63 yX5_abs wsX5_abs) := goodIn_app (goodIn_of _ (by decide +kernel)) ggX5_nearest_X5_abs
theorem dX5_nearest_0 : decode cX5_nearest 0 = .ok (.aload_n 0, 1) := by decide +kernel
theorem dX5_nearest_1 : decode cX5_nearest 1 = .ok (.iload_n 1, 1) := by decide +kernel
theorem dX5_nearest_2 : decode cX5_nearest 2 = .ok (.iconst 0, 1) := by decide +kernel
theorem dX5_nearest_3 : decode cX5_nearest 3 = .ok (.sipush 1000, 3) := by decide +kernel
theorem dX5_nearest_6 : decode cX5_nearest 6 = .ok (.invokestatic 71, 3) := by decide +kernel
theorem dX5_nearest_9 : decode cX5_nearest 9 = .ok (.ifCond .eq 39, 3) := by decide +kernel
theorem dX5_nearest_12 : decode cX5_nearest 12 = .ok (.iload_n 2, 1) := by decide +kernel
theorem dX5_nearest_13 : decode cX5_nearest 13 = .ok (.iconst 1, 1) := by decide +kernel
theorem dX5_nearest_14 : decode cX5_nearest 14 = .ok (.sipush 1000, 3) := by decide +kernel
theorem dX5_nearest_17 : decode cX5_nearest 17 = .ok (.invokestatic 71, 3) := by decide +kernel
theorem dX5_nearest_20 : decode cX5_nearest 20 = .ok (.ifCond .eq 28, 3) := by decide +kernel
theorem dX5_nearest_23 : decode cX5_nearest 23 = .ok (.iload_n 3, 1) := by decide +kernel
theorem dX5_nearest_24 : decode cX5_nearest 24 = .ok (.iconst 1, 1) := by decide +kernel
theorem dX5_nearest_25 : decode cX5_nearest 25 = .ok (.sipush 128, 3) := by decide +kernel
theorem dX5_nearest_28 : decode cX5_nearest 28 = .ok (.invokestatic 71, 3) := by decide +kernel
theorem dX5_nearest_31 : decode cX5_nearest 31 = .ok (.ifCond .eq 17, 3) := by decide +kernel
theorem dX5_nearest_34 : decode cX5_nearest 34 = .ok (.iload 4, 2) := by decide +kernel
theorem dX5_nearest_36 : decode cX5_nearest 36 = .ok (.iconst 0, 1) := by decide +kernel
theorem dX5_nearest_37 : decode cX5_nearest 37 = .ok (.iconst 2, 1) := by decide +kernel
theorem dX5_nearest_38 : decode cX5_nearest 38 = .ok (.invokestatic 71, 3) := by decide +kernel
theorem dX5_nearest_41 : decode cX5_nearest 41 = .ok (.ifCond .eq 7, 3) := by decide +kernel
theorem dX5_nearest_44 : decode cX5_nearest 44 = .ok (.iconst 0, 1) := by decide +kernel
theorem dX5_nearest_45 : decode cX5_nearest 45 = .ok (.goto 4, 3) := by decide +kernel
theorem dX5_nearest_48 : decode cX5_nearest 48 = .ok (.iconst 1, 1) := by decide +kernel
theorem dX5_nearest_49 : decode cX5_nearest 49 = .ok (.putfield 59, 3) := by decide +kernel
theorem dX5_nearest_52 : decode cX5_nearest 52 = .ok (.aload_n 0, 1) := by decide +kernel
theorem dX5_nearest_53 : decode cX5_nearest 53 = .ok (.getfield 59, 3) := by decide +kernel
theorem dX5_nearest_56 : decode cX5_nearest 56 = .ok (.ifCond .le 5, 3) := by decide +kernel
theorem dX5_nearest_59 : decode cX5_nearest 59 = .ok (.iconst 0, 1) := by decide +kernel
theorem dX5_nearest_60 : decode cX5_nearest 60 = .ok (.ireturn, 1) := by decide +kernel
theorem dX5_nearest_61 : decode cX5_nearest 61 = .ok (.iconst 1, 1) := by decide +kernel
theorem dX5_nearest_62 : decode cX5_nearest 62 = .ok (.istore 5, 2) := by decide +kernel
theorem dX5_nearest_64 : decode cX5_nearest 64 = .ok (.iconst 0, 1) := by decide +kernel
theorem dX5_nearest_65 : decode cX5_nearest 65 = .ok (.istore 6, 2) := by decide +kernel
theorem dX5_nearest_67 : decode cX5_nearest 67 = .ok (.iconst 1, 1) := by decide +kernel
theorem dX5_nearest_68 : decode cX5_nearest 68 = .ok (.istore 7, 2) := by decide +kernel
theorem dX5_nearest_70 : decode cX5_nearest 70 = .ok (.iload 7, 2) := by decide +kernel
theorem dX5_nearest_72 : decode cX5_nearest 72 = .ok (.bipush 8, 2) := by decide +kernel
theorem dX5_nearest_74 : decode cX5_nearest 74 = .ok (.if_icmp .gt 91, 3) := by decide +kernel
theorem dX5_nearest_77 : decode cX5_nearest 77 = .ok (.iconst 0, 1) := by decide +kernel
theorem dX5_nearest_78 : decode cX5_nearest 78 = .ok (.istore 8, 2) := by decide +kernel
theorem dX5_nearest_80 : decode cX5_nearest 80 = .ok (.iload 8, 2) := by decide +kernel
theorem dX5_nearest_82 : decode cX5_nearest 82 = .ok (.bipush 8, 2) := by decide +kernel
theorem dX5_nearest_84 : decode cX5_nearest 84 = .ok (.if_icmp .gt 75, 3) := by decide +kernel
theorem dX5_nearest_87 : decode cX5_nearest 87 = .ok (.iload 7, 2) := by decide +kernel
theorem dX5_nearest_89 : decode cX5_nearest 89 = .ok (.iload 7, 2) := by decide +kernel
theorem dX5_nearest_91 : decode cX5_nearest 91 = .ok (.imul, 1) := by decide +kernel
theorem dX5_nearest_92 : decode cX5_nearest 92 = .ok (.iload 8, 2) := by decide +kernel
theorem dX5_nearest_94 : decode cX5_nearest 94 = .ok (.iload 8, 2) := by decide +kernel
theorem dX5_nearest_96 : decode cX5_nearest 96 = .ok (.imul, 1) := by decide +kernel
theorem dX5_nearest_97 : decode cX5_nearest 97 = .ok (.iadd, 1) := by decide +kernel
theorem dX5_nearest_98 : decode cX5_nearest 98 = .ok (.iload_n 3, 1) := by decide +kernel
theorem dX5_nearest_99 : decode cX5_nearest 99 = .ok (.if_icmp .gt 23, 3) := by decide +kernel
theorem dX5_nearest_102 : decode cX5_nearest 102 = .ok (.iload 7, 2) := by decide +kernel
theorem dX5_nearest_104 : decode cX5_nearest 104 = .ok (.iload 8, 2) := by decide +kernel
theorem dX5_nearest_106 : decode cX5_nearest 106 = .ok (.iload 5, 2) := by decide +kernel
theorem dX5_nearest_108 : decode cX5_nearest 108 = .ok (.iload 6, 2) := by decide +kernel
theorem dX5_nearest_110 : decode cX5_nearest 110 = .ok (.iload_n 1, 1) := by decide +kernel
theorem dX5_nearest_111 : decode cX5_nearest 111 = .ok (.iload_n 2, 1) := by decide +kernel
theorem dX5_nearest_112 : decode cX5_nearest 112 = .ok (.invokestatic 268, 3) := by decide +kernel
theorem dX5_nearest_115 : decode cX5_nearest 115 = .ok (.ifCond .eq 7, 3) := by decide +kernel
theorem dX5_nearest_118 : decode cX5_nearest 118 = .ok (.iconst 1, 1) := by decide +kernel
theorem dX5_nearest_119 : decode cX5_nearest 119 = .ok (.goto 4, 3) := by decide +kernel
theorem dX5_nearest_122 : decode cX5_nearest 122 = .ok (.iconst 0, 1) := by decide +kernel
theorem dX5_nearest_123 : decode cX5_nearest 123 = .ok (.istore 9, 2) := by decide +kernel
theorem dX5_nearest_125 : decode cX5_nearest 125 = .ok (.iload 9, 2) := by decide +kernel
theorem dX5_nearest_127 : decode cX5_nearest 127 = .ok (.ifCond .eq 8, 3) := by decide +kernel
theorem dX5_nearest_130 : decode cX5_nearest 130 = .ok (.iload 7, 2) := by decide +kernel
theorem dX5_nearest_132 : decode cX5_nearest 132 = .ok (.goto 5, 3) := by decide +kernel
theorem dX5_nearest_135 : decode cX5_nearest 135 = .ok (.iload 5, 2) := by decide +kernel
theorem dX5_nearest_137 : decode cX5_nearest 137 = .ok (.istore 5, 2) := by decide +kernel
theorem dX5_nearest_139 : decode cX5_nearest 139 = .ok (.iload 9, 2) := by decide +kernel
theorem dX5_nearest_141 : decode cX5_nearest 141 = .ok (.ifCond .eq 8, 3) := by decide +kernel
theorem dX5_nearest_144 : decode cX5_nearest 144 = .ok (.iload 8, 2) := by decide +kernel
theorem dX5_nearest_146 : decode cX5_nearest 146 = .ok (.goto 5, 3) := by decide +kernel
theorem dX5_nearest_149 : decode cX5_nearest 149 = .ok (.iload 6, 2) := by decide +kernel
theorem dX5_nearest_151 : decode cX5_nearest 151 = .ok (.istore 6, 2) := by decide +kernel
theorem dX5_nearest_153 : decode cX5_nearest 153 = .ok (.iinc 8 1, 3) := by decide +kernel
theorem dX5_nearest_156 : decode cX5_nearest 156 = .ok (.goto (-76), 3) := by decide +kernel
theorem dX5_nearest_159 : decode cX5_nearest 159 = .ok (.iinc 7 1, 3) := by decide +kernel
theorem dX5_nearest_162 : decode cX5_nearest 162 = .ok (.goto (-92), 3) := by decide +kernel
theorem dX5_nearest_165 : decode cX5_nearest 165 = .ok (.iload 4, 2) := by decide +kernel
theorem dX5_nearest_167 : decode cX5_nearest 167 = .ok (.ifCond .ne 8, 3) := by decide +kernel
theorem dX5_nearest_170 : decode cX5_nearest 170 = .ok (.iload 5, 2) := by decide +kernel
theorem dX5_nearest_172 : decode cX5_nearest 172 = .ok (.goto 26, 3) := by decide +kernel
theorem dX5_nearest_175 : decode cX5_nearest 175 = .ok (.iload 4, 2) := by decide +kernel
theorem dX5_nearest_177 : decode cX5_nearest 177 = .ok (.iconst 1, 1) := by decide +kernel
theorem dX5_nearest_178 : decode cX5_nearest 178 = .ok (.if_icmp .ne 8, 3) := by decide +kernel
theorem dX5_nearest_181 : decode cX5_nearest 181 = .ok (.iload 6, 2) := by decide +kernel
theorem dX5_nearest_183 : decode cX5_nearest 183 = .ok (.goto 15, 3) := by decide +kernel
theorem dX5_nearest_186 : decode cX5_nearest 186 = .ok (.iload 5, 2) := by decide +kernel
theorem dX5_nearest_188 : decode cX5_nearest 188 = .ok (.iload_n 1, 1) := by decide +kernel
theorem dX5_nearest_189 : decode cX5_nearest 189 = .ok (.imul, 1) := by decide +kernel
theorem dX5_nearest_190 : decode cX5_nearest 190 = .ok (.iload 6, 2) := by decide +kernel
theorem dX5_nearest_192 : decode cX5_nearest 192 = .ok (.iload_n 2, 1) := by decide +kernel
theorem dX5_nearest_193 : decode cX5_nearest 193 = .ok (.imul, 1) := by decide +kernel
theorem dX5_nearest_194 : decode cX5_nearest 194 = .ok (.isub, 1) := by decide +kernel
theorem dX5_nearest_195 : decode cX5_nearest 195 = .ok (.invokestatic 63, 3) := by decide +kernel
theorem dX5_nearest_198 : decode cX5_nearest 198 = .ok (.ireturn, 1) := by decide +kernel
set_option maxRecDepth 20000 in
theorem ggX5_counted_X5_areaIn : GoodIn wsX5_counted wsX5_areaIn := goodIn_r _ [9, 10, 11, 12, 8, 13, 14, 15, 16, 21, 22, 23, 24, 25, 26, 27, 28, 29, 30, 31, 32, 33, 34, 35, 36, 37, 38, 39, 40, 41, 42, 43, 44, 45, 46, 47, 48, 49, 50, 51, 52, 53, 54, 55] (by decide +kernel) (by decide +kernel)
set_option maxRecDepth 20000 in
theorem gX5_counted_X5_areaIn : GoodIn wsX5_counted (wsV RX5 102 RX5 yX5_areaIn wsX5_areaIn) := goodIn_app (goodIn_of _ (by decide +kernel)) ggX5_counted_X5_areaIn
set_option maxRecDepth 20000 in
theorem ggX5_counted_X5_screens : GoodIn wsX5_counted wsX5_screens := goodIn_r _ [20, 1, 21, 22, 23, 24, 25, 26, 27, 28, 29, 30, 31, 32, 33, 34, 35, 36, 37, 38, 39, 40, 41, 42, 43, 44, 45, 46, 47, 48, 49, 50, 51, 52, 53, 54, 55] (by decide +kernel) (by decide +kernel)
set_option maxRecDepth 20000 in
theorem gX5_counted_X5_screens : GoodIn wsX5_counted (wsV RX5 165 RX5 yX5_screens wsX5_screens) := goodIn_app (goodIn_of _ (by decide +kernel)) ggX5_counted_X5_screens
theorem dX5_counted_0 : decode cX5_counted 0 = .ok (.iconst 0, 1) := by decide +kernel
theorem dX5_counted_1 : decode cX5_counted 1 = .ok (.istore_n 2, 1) := by decide +kernel
theorem dX5_counted_2 : decode cX5_counted 2 = .ok (.iconst 0, 1) := by decide +kernel
theorem dX5_counted_3 : decode cX5_counted 3 = .ok (.istore_n 3, 1) := by decide +kernel
theorem dX5_counted_4 : decode cX5_counted 4 = .ok (.iconst 0, 1) := by decide +kernel
theorem dX5_counted_5 : decode cX5_counted 5 = .ok (.istore 4, 2) := by decide +kernel
theorem dX5_counted_7 : decode cX5_counted 7 = .ok (.iload 4, 2) := by decide +kernel
theorem dX5_counted_9 : decode cX5_counted 9 = .ok (.iconst 3, 1) := by decide +kernel
theorem dX5_counted_10 : decode cX5_counted 10 = .ok (.if_icmp .ge 56, 3) := by decide +kernel
theorem dX5_counted_13 : decode cX5_counted 13 = .ok (.iload_n 2, 1) := by decide +kernel
theorem dX5_counted_14 : decode cX5_counted 14 = .ok (.aload_n 0, 1) := by decide +kernel
theorem dX5_counted_15 : decode cX5_counted 15 = .ok (.getfield 7, 3) := by decide +kernel
theorem dX5_counted_18 : decode cX5_counted 18 = .ok (.iload 4, 2) := by decide +kernel
theorem dX5_counted_20 : decode cX5_counted 20 = .ok (.baload, 1) := by decide +kernel
theorem dX5_counted_21 : decode cX5_counted 21 = .ok (.ifCond .eq 12, 3) := by decide +kernel
theorem dX5_counted_24 : decode cX5_counted 24 = .ok (.aload_n 0, 1) := by decide +kernel
theorem dX5_counted_25 : decode cX5_counted 25 = .ok (.iload 4, 2) := by decide +kernel
theorem dX5_counted_27 : decode cX5_counted 27 = .ok (.invokevirtual 102, 3) := by decide +kernel
theorem dX5_counted_30 : decode cX5_counted 30 = .ok (.goto 4, 3) := by decide +kernel
theorem dX5_counted_33 : decode cX5_counted 33 = .ok (.iconst 0, 1) := by decide +kernel
theorem dX5_counted_34 : decode cX5_counted 34 = .ok (.iadd, 1) := by decide +kernel
theorem dX5_counted_35 : decode cX5_counted 35 = .ok (.istore_n 2, 1) := by decide +kernel
theorem dX5_counted_36 : decode cX5_counted 36 = .ok (.iload_n 3, 1) := by decide +kernel
theorem dX5_counted_37 : decode cX5_counted 37 = .ok (.aload_n 0, 1) := by decide +kernel
theorem dX5_counted_38 : decode cX5_counted 38 = .ok (.getfield 7, 3) := by decide +kernel
theorem dX5_counted_41 : decode cX5_counted 41 = .ok (.iload 4, 2) := by decide +kernel
theorem dX5_counted_43 : decode cX5_counted 43 = .ok (.baload, 1) := by decide +kernel
theorem dX5_counted_44 : decode cX5_counted 44 = .ok (.ifCond .eq 13, 3) := by decide +kernel
theorem dX5_counted_47 : decode cX5_counted 47 = .ok (.aload_n 0, 1) := by decide +kernel
theorem dX5_counted_48 : decode cX5_counted 48 = .ok (.getfield 23, 3) := by decide +kernel
theorem dX5_counted_51 : decode cX5_counted 51 = .ok (.iload 4, 2) := by decide +kernel
theorem dX5_counted_53 : decode cX5_counted 53 = .ok (.iaload, 1) := by decide +kernel
theorem dX5_counted_54 : decode cX5_counted 54 = .ok (.goto 4, 3) := by decide +kernel
theorem dX5_counted_57 : decode cX5_counted 57 = .ok (.iconst 0, 1) := by decide +kernel
theorem dX5_counted_58 : decode cX5_counted 58 = .ok (.iadd, 1) := by decide +kernel
theorem dX5_counted_59 : decode cX5_counted 59 = .ok (.istore_n 3, 1) := by decide +kernel
theorem dX5_counted_60 : decode cX5_counted 60 = .ok (.iinc 4 1, 3) := by decide +kernel
theorem dX5_counted_63 : decode cX5_counted 63 = .ok (.goto (-56), 3) := by decide +kernel
theorem dX5_counted_66 : decode cX5_counted 66 = .ok (.iload_n 1, 1) := by decide +kernel
theorem dX5_counted_67 : decode cX5_counted 67 = .ok (.ifCond .ne 10, 3) := by decide +kernel
theorem dX5_counted_70 : decode cX5_counted 70 = .ok (.aload_n 0, 1) := by decide +kernel
theorem dX5_counted_71 : decode cX5_counted 71 = .ok (.invokevirtual 165, 3) := by decide +kernel
theorem dX5_counted_74 : decode cX5_counted 74 = .ok (.goto 37, 3) := by decide +kernel
theorem dX5_counted_77 : decode cX5_counted 77 = .ok (.iload_n 1, 1) := by decide +kernel
theorem dX5_counted_78 : decode cX5_counted 78 = .ok (.iconst 1, 1) := by decide +kernel
theorem dX5_counted_79 : decode cX5_counted 79 = .ok (.if_icmp .ne 7, 3) := by decide +kernel
theorem dX5_counted_82 : decode cX5_counted 82 = .ok (.iload_n 2, 1) := by decide +kernel
theorem dX5_counted_83 : decode cX5_counted 83 = .ok (.goto 28, 3) := by decide +kernel
theorem dX5_counted_86 : decode cX5_counted 86 = .ok (.iload_n 1, 1) := by decide +kernel
theorem dX5_counted_87 : decode cX5_counted 87 = .ok (.iconst 2, 1) := by decide +kernel
theorem dX5_counted_88 : decode cX5_counted 88 = .ok (.if_icmp .ne 7, 3) := by decide +kernel
theorem dX5_counted_91 : decode cX5_counted 91 = .ok (.iload_n 3, 1) := by decide +kernel
theorem dX5_counted_92 : decode cX5_counted 92 = .ok (.goto 19, 3) := by decide +kernel
theorem dX5_counted_95 : decode cX5_counted 95 = .ok (.iload_n 1, 1) := by decide +kernel
theorem dX5_counted_96 : decode cX5_counted 96 = .ok (.iconst 3, 1) := by decide +kernel
theorem dX5_counted_97 : decode cX5_counted 97 = .ok (.if_icmp .ne 10, 3) := by decide +kernel
theorem dX5_counted_100 : decode cX5_counted 100 = .ok (.aload_n 0, 1) := by decide +kernel
theorem dX5_counted_101 : decode cX5_counted 101 = .ok (.getfield 191, 3) := by decide +kernel
theorem dX5_counted_104 : decode cX5_counted 104 = .ok (.goto 7, 3) := by decide +kernel
theorem dX5_counted_107 : decode cX5_counted 107 = .ok (.aload_n 0, 1) := by decide +kernel
theorem dX5_counted_108 : decode cX5_counted 108 = .ok (.getfield 123, 3) := by decide +kernel
theorem dX5_counted_111 : decode cX5_counted 111 = .ok (.ireturn, 1) := by decide +kernel
set_option maxRecDepth 20000 in
theorem ggX5_count_X5_within : GoodIn wsX5_count wsX5_within := goodIn_r _ [5] (by decide +kernel) (by decide +kernel)
set_option maxRecDepth 20000 in
theorem gX5_count_X5_within : GoodIn wsX5_count (va_wsS RX5 71 yX5_within wsX5_within) := goodIn_app (goodIn_of _ (by decide +kernel)) ggX5_count_X5_within
set_option maxRecDepth 20000 in
theorem ggX5_count_X5_counted : GoodIn wsX5_count wsX5_counted := goodIn_r _ [9, 10, 11, 12, 13, 14, 15, 16, 4, 17, 18, 19, 20, 21, 22, 23, 24, 25, 26, 27, 28, 29, 30, 31, 32, 33, 34, 35, 36, 37, 38, 39, 40, 41, 42, 43, 44, 45, 46, 47, 48, 49, 50, 51, 52, 53, 54, 55, 56, 57, 58, 59, 60, 61, 62, 63] (by decide +kernel) (by decide +kernel)
set_option maxRecDepth 20000 in
theorem gX5_count_X5_counted : GoodIn wsX5_count (wsV RX5 272 RX5 yX5_counted wsX5_counted) := goodIn_app (goodIn_of _ (by decide +kernel)) ggX5_count_X5_counted
theorem dX5_count_0 : decode cX5_count 0 = .ok (.aload_n 0, 1) := by decide +kernel
theorem dX5_count_1 : decode cX5_count 1 = .ok (.iload_n 1, 1) := by decide +kernel
theorem dX5_count_2 : decode cX5_count 2 = .ok (.iconst 0, 1) := by decide +kernel
theorem dX5_count_3 : decode cX5_count 3 = .ok (.iconst 4, 1) := by decide +kernel
theorem dX5_count_4 : decode cX5_count 4 = .ok (.invokestatic 71, 3) := by decide +kernel
theorem dX5_count_7 : decode cX5_count 7 = .ok (.ifCond .eq 7, 3) := by decide +kernel
theorem dX5_count_10 : decode cX5_count 10 = .ok (.iconst 0, 1) := by decide +kernel
theorem dX5_count_11 : decode cX5_count 11 = .ok (.goto 4, 3) := by decide +kernel
theorem dX5_count_14 : decode cX5_count 14 = .ok (.iconst 1, 1) := by decide +kernel
theorem dX5_count_15 : decode cX5_count 15 = .ok (.putfield 59, 3) := by decide +kernel
theorem dX5_count_18 : decode cX5_count 18 = .ok (.aload_n 0, 1) := by decide +kernel
theorem dX5_count_19 : decode cX5_count 19 = .ok (.getfield 59, 3) := by decide +kernel
theorem dX5_count_22 : decode cX5_count 22 = .ok (.ifCond .le 7, 3) := by decide +kernel
theorem dX5_count_25 : decode cX5_count 25 = .ok (.iconst 0, 1) := by decide +kernel
theorem dX5_count_26 : decode cX5_count 26 = .ok (.goto 8, 3) := by decide +kernel
theorem dX5_count_29 : decode cX5_count 29 = .ok (.aload_n 0, 1) := by decide +kernel
theorem dX5_count_30 : decode cX5_count 30 = .ok (.iload_n 1, 1) := by decide +kernel
theorem dX5_count_31 : decode cX5_count 31 = .ok (.invokevirtual 272, 3) := by decide +kernel
theorem dX5_count_34 : decode cX5_count 34 = .ok (.ireturn, 1) := by decide +kernel
theorem dX5_mix_0 : decode cX5_mix 0 = .ok (.aload_n 0, 1) := by decide +kernel
theorem dX5_mix_1 : decode cX5_mix 1 = .ok (.ldc2_w 275, 3) := by decide +kernel
theorem dX5_mix_4 : decode cX5_mix 4 = .ok (.aload_n 0, 1) := by decide +kernel
theorem dX5_mix_5 : decode cX5_mix 5 = .ok (.getfield 277, 3) := by decide +kernel
theorem dX5_mix_8 : decode cX5_mix 8 = .ok (.lmul, 1) := by decide +kernel
theorem dX5_mix_9 : decode cX5_mix 9 = .ok (.lload_n 1, 1) := by decide +kernel
theorem dX5_mix_10 : decode cX5_mix 10 = .ok (.ladd, 1) := by decide +kernel
theorem dX5_mix_11 : decode cX5_mix 11 = .ok (.putfield 277, 3) := by decide +kernel
theorem dX5_mix_14 : decode cX5_mix 14 = .ok (.return_, 1) := by decide +kernel
set_option maxRecDepth 20000 in
theorem ggX5_mixScreen_X5_mix : GoodIn wsX5_mixScreen wsX5_mix := goodIn_r _ [11, 12, 13, 96, 97, 98, 99, 100, 101, 102, 103, 104, 105, 106, 107, 108, 109, 110, 111, 112, 113, 114, 115, 116, 117, 118, 119, 120, 121, 122, 123, 124, 125, 126, 127, 128, 129, 130] (by decide +kernel) (by decide +kernel)
set_option maxRecDepth 20000 in
theorem gX5_mixScreen_X5_mix : GoodIn wsX5_mixScreen (wsV RX5 281 RX5 yX5_mix wsX5_mix) := goodIn_app (goodIn_of _ (by decide +kernel)) ggX5_mixScreen_X5_mix
set_option maxRecDepth 20000 in
theorem ggX5_mixScreen_X5_propertyOf : GoodIn wsX5_mixScreen wsX5_propertyOf := goodIn_r _ [17, 18, 19, 20, 21, 22, 23, 4, 24, 25, 26, 10, 27, 28, 29, 30, 31, 32, 33, 34, 35, 36, 37, 38, 39, 40, 41, 42, 43, 44, 45, 46, 47, 96, 97, 98, 99, 100, 101, 102, 103, 104, 105, 106, 107, 108, 109, 110, 111, 112, 113, 114, 115, 116, 117, 118, 119, 120, 121, 122, 123, 124, 125, 126, 127, 128, 129, 130] (by decide +kernel) (by decide +kernel)
set_option maxRecDepth 20000 in
theorem gX5_mixScreen_X5_propertyOf : GoodIn wsX5_mixScreen (wsV RX5 194 RX5 yX5_propertyOf wsX5_propertyOf) := goodIn_app (goodIn_of _ (by decide +kernel)) ggX5_mixScreen_X5_propertyOf
set_option maxRecDepth 20000 in
theorem ggX5_mixScreen_X5_layGrowth : GoodIn wsX5_mixScreen wsX5_layGrowth := goodIn_r _ [51, 1, 2, 19, 3, 24, 25, 26, 10, 27, 18, 28, 29, 30, 31, 21, 20, 32, 33, 34, 35, 36, 37, 38, 39, 40, 41, 42, 43, 44, 45, 46, 47, 52, 53, 54, 55, 23, 22, 56, 57, 58, 59, 60, 61, 62, 96, 97, 98, 99, 100, 101, 102, 103, 104, 105, 106, 107, 108, 109, 110, 111, 112, 113, 114, 115, 116, 117, 118, 119, 120, 121, 122, 123, 124, 125, 126, 127, 128, 129, 130] (by decide +kernel) (by decide +kernel)
set_option maxRecDepth 20000 in
theorem gX5_mixScreen_X5_layGrowth : GoodIn wsX5_mixScreen (wsV RX5 120 RX5 yX5_layGrowth wsX5_layGrowth) := goodIn_app (goodIn_of _ (by decide +kernel)) ggX5_mixScreen_X5_layGrowth
set_option maxRecDepth 20000 in
theorem ggX5_mixScreen_X5_layDots : GoodIn wsX5_mixScreen wsX5_layDots := goodIn_r _ [66, 5, 6, 1, 67, 3, 68, 69, 70, 10, 71, 72, 73, 19, 74, 75, 76, 77, 78, 79, 80, 81, 82, 83, 84, 21, 20, 60, 61, 62, 41, 42, 43, 85, 86, 87, 88, 89, 90, 96, 97, 98, 99, 100, 101, 102, 103, 104, 105, 106, 107, 108, 109, 110, 111, 112, 113, 114, 115, 116, 117, 118, 119, 120, 121, 122, 123, 124, 125, 126, 127, 128, 129, 130] (by decide +kernel) (by decide +kernel)
set_option maxRecDepth 20000 in
theorem gX5_mixScreen_X5_layDots : GoodIn wsX5_mixScreen (wsV RX5 243 RX5 yX5_layDots wsX5_layDots) := goodIn_app (goodIn_of _ (by decide +kernel)) ggX5_mixScreen_X5_layDots
set_option maxRecDepth 20000 in
theorem ggX5_mixScreen_X5_strengthOf : GoodIn wsX5_mixScreen wsX5_strengthOf := goodIn_r _ [94, 1, 19, 3, 95, 81, 82, 83, 10, 84, 21, 20, 60, 61, 62, 41, 42, 43, 96, 97, 98, 99, 100, 101, 102, 103, 104, 105, 106, 107, 108, 109, 110, 111, 112, 113, 114, 115, 116, 117, 118, 119, 120, 121, 122, 123, 124, 125, 126, 127, 128, 129, 130] (by decide +kernel) (by decide +kernel)
set_option maxRecDepth 20000 in
theorem gX5_mixScreen_X5_strengthOf : GoodIn wsX5_mixScreen (wsV RX5 246 RX5 yX5_strengthOf wsX5_strengthOf) := goodIn_app (goodIn_of _ (by decide +kernel)) ggX5_mixScreen_X5_strengthOf
theorem dX5_mixScreen_0 : decode cX5_mixScreen 0 = .ok (.aload_n 0, 1) := by decide +kernel
theorem dX5_mixScreen_1 : decode cX5_mixScreen 1 = .ok (.lconst 1, 1) := by decide +kernel
theorem dX5_mixScreen_2 : decode cX5_mixScreen 2 = .ok (.invokevirtual 281, 3) := by decide +kernel
theorem dX5_mixScreen_5 : decode cX5_mixScreen 5 = .ok (.iconst 0, 1) := by decide +kernel
theorem dX5_mixScreen_6 : decode cX5_mixScreen 6 = .ok (.istore_n 2, 1) := by decide +kernel
theorem dX5_mixScreen_7 : decode cX5_mixScreen 7 = .ok (.iload_n 2, 1) := by decide +kernel
theorem dX5_mixScreen_8 : decode cX5_mixScreen 8 = .ok (.bipush 11, 2) := by decide +kernel
theorem dX5_mixScreen_10 : decode cX5_mixScreen 10 = .ok (.if_icmp .ge 20, 3) := by decide +kernel
theorem dX5_mixScreen_13 : decode cX5_mixScreen 13 = .ok (.aload_n 0, 1) := by decide +kernel
theorem dX5_mixScreen_14 : decode cX5_mixScreen 14 = .ok (.aload_n 0, 1) := by decide +kernel
theorem dX5_mixScreen_15 : decode cX5_mixScreen 15 = .ok (.iload_n 1, 1) := by decide +kernel
theorem dX5_mixScreen_16 : decode cX5_mixScreen 16 = .ok (.iload_n 2, 1) := by decide +kernel
theorem dX5_mixScreen_17 : decode cX5_mixScreen 17 = .ok (.invokevirtual 194, 3) := by decide +kernel
theorem dX5_mixScreen_20 : decode cX5_mixScreen 20 = .ok (.i2l, 1) := by decide +kernel
theorem dX5_mixScreen_21 : decode cX5_mixScreen 21 = .ok (.invokevirtual 281, 3) := by decide +kernel
theorem dX5_mixScreen_24 : decode cX5_mixScreen 24 = .ok (.iinc 2 1, 3) := by decide +kernel
theorem dX5_mixScreen_27 : decode cX5_mixScreen 27 = .ok (.goto (-20), 3) := by decide +kernel
theorem dX5_mixScreen_30 : decode cX5_mixScreen 30 = .ok (.aload_n 0, 1) := by decide +kernel
theorem dX5_mixScreen_31 : decode cX5_mixScreen 31 = .ok (.iload_n 1, 1) := by decide +kernel
theorem dX5_mixScreen_32 : decode cX5_mixScreen 32 = .ok (.invokevirtual 120, 3) := by decide +kernel
theorem dX5_mixScreen_35 : decode cX5_mixScreen 35 = .ok (.iconst 0, 1) := by decide +kernel
theorem dX5_mixScreen_36 : decode cX5_mixScreen 36 = .ok (.istore_n 2, 1) := by decide +kernel
theorem dX5_mixScreen_37 : decode cX5_mixScreen 37 = .ok (.iload_n 2, 1) := by decide +kernel
theorem dX5_mixScreen_38 : decode cX5_mixScreen 38 = .ok (.aload_n 0, 1) := by decide +kernel
theorem dX5_mixScreen_39 : decode cX5_mixScreen 39 = .ok (.getfield 113, 3) := by decide +kernel
theorem dX5_mixScreen_42 : decode cX5_mixScreen 42 = .ok (.if_icmp .ge 31, 3) := by decide +kernel
theorem dX5_mixScreen_45 : decode cX5_mixScreen 45 = .ok (.aload_n 0, 1) := by decide +kernel
theorem dX5_mixScreen_46 : decode cX5_mixScreen 46 = .ok (.aload_n 0, 1) := by decide +kernel
theorem dX5_mixScreen_47 : decode cX5_mixScreen 47 = .ok (.getfield 29, 3) := by decide +kernel
theorem dX5_mixScreen_50 : decode cX5_mixScreen 50 = .ok (.iload_n 2, 1) := by decide +kernel
theorem dX5_mixScreen_51 : decode cX5_mixScreen 51 = .ok (.iaload, 1) := by decide +kernel
theorem dX5_mixScreen_52 : decode cX5_mixScreen 52 = .ok (.i2l, 1) := by decide +kernel
theorem dX5_mixScreen_53 : decode cX5_mixScreen 53 = .ok (.invokevirtual 281, 3) := by decide +kernel
theorem dX5_mixScreen_56 : decode cX5_mixScreen 56 = .ok (.aload_n 0, 1) := by decide +kernel
theorem dX5_mixScreen_57 : decode cX5_mixScreen 57 = .ok (.aload_n 0, 1) := by decide +kernel
theorem dX5_mixScreen_58 : decode cX5_mixScreen 58 = .ok (.getfield 32, 3) := by decide +kernel
theorem dX5_mixScreen_61 : decode cX5_mixScreen 61 = .ok (.iload_n 2, 1) := by decide +kernel
theorem dX5_mixScreen_62 : decode cX5_mixScreen 62 = .ok (.iaload, 1) := by decide +kernel
theorem dX5_mixScreen_63 : decode cX5_mixScreen 63 = .ok (.i2l, 1) := by decide +kernel
theorem dX5_mixScreen_64 : decode cX5_mixScreen 64 = .ok (.invokevirtual 281, 3) := by decide +kernel
theorem dX5_mixScreen_67 : decode cX5_mixScreen 67 = .ok (.iinc 2 1, 3) := by decide +kernel
theorem dX5_mixScreen_70 : decode cX5_mixScreen 70 = .ok (.goto (-33), 3) := by decide +kernel
theorem dX5_mixScreen_73 : decode cX5_mixScreen 73 = .ok (.aload_n 0, 1) := by decide +kernel
theorem dX5_mixScreen_74 : decode cX5_mixScreen 74 = .ok (.aload_n 0, 1) := by decide +kernel
theorem dX5_mixScreen_75 : decode cX5_mixScreen 75 = .ok (.getfield 23, 3) := by decide +kernel
theorem dX5_mixScreen_78 : decode cX5_mixScreen 78 = .ok (.iload_n 1, 1) := by decide +kernel
theorem dX5_mixScreen_79 : decode cX5_mixScreen 79 = .ok (.iaload, 1) := by decide +kernel
theorem dX5_mixScreen_80 : decode cX5_mixScreen 80 = .ok (.invokevirtual 243, 3) := by decide +kernel
theorem dX5_mixScreen_83 : decode cX5_mixScreen 83 = .ok (.aload_n 0, 1) := by decide +kernel
theorem dX5_mixScreen_84 : decode cX5_mixScreen 84 = .ok (.aload_n 0, 1) := by decide +kernel
theorem dX5_mixScreen_85 : decode cX5_mixScreen 85 = .ok (.getfield 231, 3) := by decide +kernel
theorem dX5_mixScreen_88 : decode cX5_mixScreen 88 = .ok (.i2l, 1) := by decide +kernel
theorem dX5_mixScreen_89 : decode cX5_mixScreen 89 = .ok (.invokevirtual 281, 3) := by decide +kernel
theorem dX5_mixScreen_92 : decode cX5_mixScreen 92 = .ok (.aload_n 0, 1) := by decide +kernel
theorem dX5_mixScreen_93 : decode cX5_mixScreen 93 = .ok (.aload_n 0, 1) := by decide +kernel
theorem dX5_mixScreen_94 : decode cX5_mixScreen 94 = .ok (.getfield 234, 3) := by decide +kernel
theorem dX5_mixScreen_97 : decode cX5_mixScreen 97 = .ok (.i2l, 1) := by decide +kernel
theorem dX5_mixScreen_98 : decode cX5_mixScreen 98 = .ok (.invokevirtual 281, 3) := by decide +kernel
theorem dX5_mixScreen_101 : decode cX5_mixScreen 101 = .ok (.aload_n 0, 1) := by decide +kernel
theorem dX5_mixScreen_102 : decode cX5_mixScreen 102 = .ok (.aload_n 0, 1) := by decide +kernel
theorem dX5_mixScreen_103 : decode cX5_mixScreen 103 = .ok (.aload_n 0, 1) := by decide +kernel
theorem dX5_mixScreen_104 : decode cX5_mixScreen 104 = .ok (.getfield 23, 3) := by decide +kernel
theorem dX5_mixScreen_107 : decode cX5_mixScreen 107 = .ok (.iload_n 1, 1) := by decide +kernel
theorem dX5_mixScreen_108 : decode cX5_mixScreen 108 = .ok (.iaload, 1) := by decide +kernel
theorem dX5_mixScreen_109 : decode cX5_mixScreen 109 = .ok (.invokevirtual 246, 3) := by decide +kernel
theorem dX5_mixScreen_112 : decode cX5_mixScreen 112 = .ok (.i2l, 1) := by decide +kernel
theorem dX5_mixScreen_113 : decode cX5_mixScreen 113 = .ok (.invokevirtual 281, 3) := by decide +kernel
theorem dX5_mixScreen_116 : decode cX5_mixScreen 116 = .ok (.return_, 1) := by decide +kernel
set_option maxRecDepth 20000 in
theorem ggX5_mixPair_X5_layPeriod : GoodIn wsX5_mixPair wsX5_layPeriod := goodIn_r _ [5, 6, 7, 8, 9, 10, 11, 4, 12, 13, 14, 15, 16, 17, 18, 19, 20, 21, 22, 23, 24, 25, 26, 27, 28, 29, 30, 31, 32, 33, 48, 49, 50, 51, 52, 53, 54, 55, 56, 57, 58, 59, 60, 61, 62, 63, 64, 65, 66, 67, 68, 69, 70, 71, 72, 73, 74, 75, 76, 77, 78, 79, 80, 81, 82] (by decide +kernel) (by decide +kernel)
set_option maxRecDepth 20000 in
theorem gX5_mixPair_X5_layPeriod : GoodIn wsX5_mixPair (wsV RX5 256 RX5 yX5_layPeriod wsX5_layPeriod) := goodIn_app (goodIn_of _ (by decide +kernel)) ggX5_mixPair_X5_layPeriod
set_option maxRecDepth 20000 in
theorem ggX5_mixPair_X5_numberOf : GoodIn wsX5_mixPair wsX5_numberOf := goodIn_r _ [37, 6, 8, 7, 48, 49, 50, 51, 52, 53, 54, 55, 56, 57, 58, 59, 60, 61, 62, 63, 64, 65, 66, 67, 68, 69, 70, 71, 72, 73, 74, 75, 76, 77, 78, 79, 80, 81, 82] (by decide +kernel) (by decide +kernel)
set_option maxRecDepth 20000 in
theorem gX5_mixPair_X5_numberOf : GoodIn wsX5_mixPair (wsV RX5 259 RX5 yX5_numberOf wsX5_numberOf) := goodIn_app (goodIn_of _ (by decide +kernel)) ggX5_mixPair_X5_numberOf
set_option maxRecDepth 20000 in
theorem ggX5_mixPair_X5_mix : GoodIn wsX5_mixPair wsX5_mix := goodIn_r _ [41, 42, 43, 48, 49, 50, 51, 52, 53, 54, 55, 56, 57, 58, 59, 60, 61, 62, 63, 64, 65, 66, 67, 68, 69, 70, 71, 72, 73, 74, 75, 76, 77, 78, 79, 80, 81, 82] (by decide +kernel) (by decide +kernel)
set_option maxRecDepth 20000 in
theorem gX5_mixPair_X5_mix : GoodIn wsX5_mixPair (wsV RX5 281 RX5 yX5_mix wsX5_mix) := goodIn_app (goodIn_of _ (by decide +kernel)) ggX5_mixPair_X5_mix
set_option maxRecDepth 20000 in
theorem ggX5_mixPair_X5_layBeat : GoodIn wsX5_mixPair wsX5_layBeat := goodIn_r _ [47, 6, 7, 8, 9, 10, 11, 4, 12, 13, 14, 15, 16, 17, 18, 19, 20, 21, 22, 23, 24, 25, 26, 27, 28, 29, 48, 49, 50, 51, 52, 53, 54, 55, 56, 57, 58, 59, 60, 61, 62, 63, 64, 65, 66, 67, 68, 69, 70, 71, 72, 73, 74, 75, 76, 77, 78, 79, 80, 81, 82] (by decide +kernel) (by decide +kernel)
set_option maxRecDepth 20000 in
theorem gX5_mixPair_X5_layBeat : GoodIn wsX5_mixPair (wsV RX5 262 RX5 yX5_layBeat wsX5_layBeat) := goodIn_app (goodIn_of _ (by decide +kernel)) ggX5_mixPair_X5_layBeat
theorem dX5_mixPair_0 : decode cX5_mixPair 0 = .ok (.aload_n 0, 1) := by decide +kernel
theorem dX5_mixPair_1 : decode cX5_mixPair 1 = .ok (.iconst 1, 1) := by decide +kernel
theorem dX5_mixPair_2 : decode cX5_mixPair 2 = .ok (.iload_n 1, 1) := by decide +kernel
theorem dX5_mixPair_3 : decode cX5_mixPair 3 = .ok (.ishl, 1) := by decide +kernel
theorem dX5_mixPair_4 : decode cX5_mixPair 4 = .ok (.iconst 1, 1) := by decide +kernel
theorem dX5_mixPair_5 : decode cX5_mixPair 5 = .ok (.iload_n 2, 1) := by decide +kernel
theorem dX5_mixPair_6 : decode cX5_mixPair 6 = .ok (.ishl, 1) := by decide +kernel
theorem dX5_mixPair_7 : decode cX5_mixPair 7 = .ok (.ior, 1) := by decide +kernel
theorem dX5_mixPair_8 : decode cX5_mixPair 8 = .ok (.invokevirtual 256, 3) := by decide +kernel
theorem dX5_mixPair_11 : decode cX5_mixPair 11 = .ok (.iconst 0, 1) := by decide +kernel
theorem dX5_mixPair_12 : decode cX5_mixPair 12 = .ok (.istore_n 3, 1) := by decide +kernel
theorem dX5_mixPair_13 : decode cX5_mixPair 13 = .ok (.iload_n 3, 1) := by decide +kernel
theorem dX5_mixPair_14 : decode cX5_mixPair 14 = .ok (.iconst 4, 1) := by decide +kernel
theorem dX5_mixPair_15 : decode cX5_mixPair 15 = .ok (.if_icmp .ge 19, 3) := by decide +kernel
theorem dX5_mixPair_18 : decode cX5_mixPair 18 = .ok (.aload_n 0, 1) := by decide +kernel
theorem dX5_mixPair_19 : decode cX5_mixPair 19 = .ok (.aload_n 0, 1) := by decide +kernel
theorem dX5_mixPair_20 : decode cX5_mixPair 20 = .ok (.iload_n 3, 1) := by decide +kernel
theorem dX5_mixPair_21 : decode cX5_mixPair 21 = .ok (.invokevirtual 259, 3) := by decide +kernel
theorem dX5_mixPair_24 : decode cX5_mixPair 24 = .ok (.i2l, 1) := by decide +kernel
theorem dX5_mixPair_25 : decode cX5_mixPair 25 = .ok (.invokevirtual 281, 3) := by decide +kernel
theorem dX5_mixPair_28 : decode cX5_mixPair 28 = .ok (.iinc 3 1, 3) := by decide +kernel
theorem dX5_mixPair_31 : decode cX5_mixPair 31 = .ok (.goto (-18), 3) := by decide +kernel
theorem dX5_mixPair_34 : decode cX5_mixPair 34 = .ok (.aload_n 0, 1) := by decide +kernel
theorem dX5_mixPair_35 : decode cX5_mixPair 35 = .ok (.iload_n 1, 1) := by decide +kernel
theorem dX5_mixPair_36 : decode cX5_mixPair 36 = .ok (.iload_n 2, 1) := by decide +kernel
theorem dX5_mixPair_37 : decode cX5_mixPair 37 = .ok (.invokevirtual 262, 3) := by decide +kernel
theorem dX5_mixPair_40 : decode cX5_mixPair 40 = .ok (.iconst 0, 1) := by decide +kernel
theorem dX5_mixPair_41 : decode cX5_mixPair 41 = .ok (.istore_n 3, 1) := by decide +kernel
theorem dX5_mixPair_42 : decode cX5_mixPair 42 = .ok (.iload_n 3, 1) := by decide +kernel
theorem dX5_mixPair_43 : decode cX5_mixPair 43 = .ok (.iconst 4, 1) := by decide +kernel
theorem dX5_mixPair_44 : decode cX5_mixPair 44 = .ok (.if_icmp .ge 19, 3) := by decide +kernel
theorem dX5_mixPair_47 : decode cX5_mixPair 47 = .ok (.aload_n 0, 1) := by decide +kernel
theorem dX5_mixPair_48 : decode cX5_mixPair 48 = .ok (.aload_n 0, 1) := by decide +kernel
theorem dX5_mixPair_49 : decode cX5_mixPair 49 = .ok (.iload_n 3, 1) := by decide +kernel
theorem dX5_mixPair_50 : decode cX5_mixPair 50 = .ok (.invokevirtual 259, 3) := by decide +kernel
theorem dX5_mixPair_53 : decode cX5_mixPair 53 = .ok (.i2l, 1) := by decide +kernel
theorem dX5_mixPair_54 : decode cX5_mixPair 54 = .ok (.invokevirtual 281, 3) := by decide +kernel
theorem dX5_mixPair_57 : decode cX5_mixPair 57 = .ok (.iinc 3 1, 3) := by decide +kernel
theorem dX5_mixPair_60 : decode cX5_mixPair 60 = .ok (.goto (-18), 3) := by decide +kernel
theorem dX5_mixPair_63 : decode cX5_mixPair 63 = .ok (.return_, 1) := by decide +kernel
set_option maxRecDepth 20000 in
theorem ggX5_digest_X5_counted : GoodIn wsX5_digest wsX5_counted := goodIn_r _ [11, 4, 12, 13, 5, 14, 15, 16, 10, 17, 18, 19, 20, 21, 22, 23, 24, 25, 26, 27, 28, 133, 134, 135, 136, 137, 138, 139, 140, 141, 142, 143, 144, 145, 146, 147, 148, 149, 150, 151, 152, 153, 154, 155, 156, 157, 158, 159, 160, 161, 162, 163, 164, 165, 166, 167] (by decide +kernel) (by decide +kernel)
set_option maxRecDepth 20000 in
theorem gX5_digest_X5_counted : GoodIn wsX5_digest (wsV RX5 272 RX5 yX5_counted wsX5_counted) := goodIn_app (goodIn_of _ (by decide +kernel)) ggX5_digest_X5_counted
set_option maxRecDepth 20000 in
theorem ggX5_digest_X5_mix : GoodIn wsX5_digest wsX5_mix := goodIn_r _ [32, 33, 3, 133, 134, 135, 136, 137, 138, 139, 140, 141, 142, 143, 144, 145, 146, 147, 148, 149, 150, 151, 152, 153, 154, 155, 156, 157, 158, 159, 160, 161, 162, 163, 164, 165, 166, 167] (by decide +kernel) (by decide +kernel)
set_option maxRecDepth 20000 in
theorem gX5_digest_X5_mix : GoodIn wsX5_digest (wsV RX5 281 RX5 yX5_mix wsX5_mix) := goodIn_app (goodIn_of _ (by decide +kernel)) ggX5_digest_X5_mix
set_option maxRecDepth 20000 in
theorem ggX5_digest_X5_mixScreen : GoodIn wsX5_digest wsX5_mixScreen := goodIn_r _ [37, 38, 39, 40, 12, 41, 42, 29, 30, 31, 10, 32, 33, 3, 43, 44, 45, 46, 18, 47, 48, 49, 50, 51, 52, 53, 54, 55, 56, 57, 58, 59, 60, 61, 62, 22, 23, 24, 19, 20, 21, 63, 64, 65, 14, 15, 16, 17, 66, 67, 68, 69, 70, 71, 72, 73, 74, 75, 76, 77, 78, 79, 80, 81, 82, 83, 84, 85, 86, 87, 88, 89, 90, 91, 92, 93, 94, 95, 96, 97, 98, 99, 100, 101, 102, 103, 104, 105, 106, 107, 108, 109, 110, 111, 112, 13, 133, 134, 135, 136, 137, 138, 139, 140, 141, 142, 143, 144, 145, 146, 147, 148, 149, 150, 151, 152, 153, 154, 155, 156, 157, 158, 159, 160, 161, 162, 163, 164, 165, 166, 167] (by decide +kernel) (by decide +kernel)
set_option maxRecDepth 20000 in
theorem gX5_digest_X5_mixScreen : GoodIn wsX5_digest (wsV RX5 287 RX5 yX5_mixScreen wsX5_mixScreen) := goodIn_app (goodIn_of _ (by decide +kernel)) ggX5_digest_X5_mixScreen
set_option maxRecDepth 20000 in
theorem ggX5_digest_X5_mixPair : GoodIn wsX5_digest wsX5_mixPair := goodIn_r _ [116, 117, 118, 119, 10, 120, 47, 48, 49, 52, 53, 54, 55, 18, 56, 57, 58, 59, 60, 61, 62, 22, 23, 24, 19, 20, 21, 63, 64, 65, 121, 122, 123, 124, 125, 126, 127, 128, 29, 30, 31, 32, 33, 3, 129, 130, 131, 132, 133, 134, 135, 136, 137, 138, 139, 140, 141, 142, 143, 144, 145, 146, 147, 148, 149, 150, 151, 152, 153, 154, 155, 156, 157, 158, 159, 160, 161, 162, 163, 164, 165, 166, 167] (by decide +kernel) (by decide +kernel)
set_option maxRecDepth 20000 in
theorem gX5_digest_X5_mixPair : GoodIn wsX5_digest (wsV RX5 290 RX5 yX5_mixPair wsX5_mixPair) := goodIn_app (goodIn_of _ (by decide +kernel)) ggX5_digest_X5_mixPair
theorem dX5_digest_0 : decode cX5_digest 0 = .ok (.aload_n 0, 1) := by decide +kernel
theorem dX5_digest_1 : decode cX5_digest 1 = .ok (.iconst 0, 1) := by decide +kernel
theorem dX5_digest_2 : decode cX5_digest 2 = .ok (.putfield 59, 3) := by decide +kernel
theorem dX5_digest_5 : decode cX5_digest 5 = .ok (.aload_n 0, 1) := by decide +kernel
theorem dX5_digest_6 : decode cX5_digest 6 = .ok (.ldc2_w 285, 3) := by decide +kernel
theorem dX5_digest_9 : decode cX5_digest 9 = .ok (.putfield 277, 3) := by decide +kernel
theorem dX5_digest_12 : decode cX5_digest 12 = .ok (.iconst 0, 1) := by decide +kernel
theorem dX5_digest_13 : decode cX5_digest 13 = .ok (.istore_n 1, 1) := by decide +kernel
theorem dX5_digest_14 : decode cX5_digest 14 = .ok (.iload_n 1, 1) := by decide +kernel
theorem dX5_digest_15 : decode cX5_digest 15 = .ok (.iconst 5, 1) := by decide +kernel
theorem dX5_digest_16 : decode cX5_digest 16 = .ok (.if_icmp .ge 19, 3) := by decide +kernel
theorem dX5_digest_19 : decode cX5_digest 19 = .ok (.aload_n 0, 1) := by decide +kernel
theorem dX5_digest_20 : decode cX5_digest 20 = .ok (.aload_n 0, 1) := by decide +kernel
theorem dX5_digest_21 : decode cX5_digest 21 = .ok (.iload_n 1, 1) := by decide +kernel
theorem dX5_digest_22 : decode cX5_digest 22 = .ok (.invokevirtual 272, 3) := by decide +kernel
theorem dX5_digest_25 : decode cX5_digest 25 = .ok (.i2l, 1) := by decide +kernel
theorem dX5_digest_26 : decode cX5_digest 26 = .ok (.invokevirtual 281, 3) := by decide +kernel
theorem dX5_digest_29 : decode cX5_digest 29 = .ok (.iinc 1 1, 3) := by decide +kernel
theorem dX5_digest_32 : decode cX5_digest 32 = .ok (.goto (-18), 3) := by decide +kernel
theorem dX5_digest_35 : decode cX5_digest 35 = .ok (.iconst 0, 1) := by decide +kernel
theorem dX5_digest_36 : decode cX5_digest 36 = .ok (.istore_n 1, 1) := by decide +kernel
theorem dX5_digest_37 : decode cX5_digest 37 = .ok (.iload_n 1, 1) := by decide +kernel
theorem dX5_digest_38 : decode cX5_digest 38 = .ok (.iconst 3, 1) := by decide +kernel
theorem dX5_digest_39 : decode cX5_digest 39 = .ok (.if_icmp .ge 31, 3) := by decide +kernel
theorem dX5_digest_42 : decode cX5_digest 42 = .ok (.aload_n 0, 1) := by decide +kernel
theorem dX5_digest_43 : decode cX5_digest 43 = .ok (.getfield 7, 3) := by decide +kernel
theorem dX5_digest_46 : decode cX5_digest 46 = .ok (.iload_n 1, 1) := by decide +kernel
theorem dX5_digest_47 : decode cX5_digest 47 = .ok (.baload, 1) := by decide +kernel
theorem dX5_digest_48 : decode cX5_digest 48 = .ok (.ifCond .eq 11, 3) := by decide +kernel
theorem dX5_digest_51 : decode cX5_digest 51 = .ok (.aload_n 0, 1) := by decide +kernel
theorem dX5_digest_52 : decode cX5_digest 52 = .ok (.iload_n 1, 1) := by decide +kernel
theorem dX5_digest_53 : decode cX5_digest 53 = .ok (.invokevirtual 287, 3) := by decide +kernel
theorem dX5_digest_56 : decode cX5_digest 56 = .ok (.goto 8, 3) := by decide +kernel
theorem dX5_digest_59 : decode cX5_digest 59 = .ok (.aload_n 0, 1) := by decide +kernel
theorem dX5_digest_60 : decode cX5_digest 60 = .ok (.lconst 0, 1) := by decide +kernel
theorem dX5_digest_61 : decode cX5_digest 61 = .ok (.invokevirtual 281, 3) := by decide +kernel
theorem dX5_digest_64 : decode cX5_digest 64 = .ok (.iinc 1 1, 3) := by decide +kernel
theorem dX5_digest_67 : decode cX5_digest 67 = .ok (.goto (-30), 3) := by decide +kernel
theorem dX5_digest_70 : decode cX5_digest 70 = .ok (.iconst 0, 1) := by decide +kernel
theorem dX5_digest_71 : decode cX5_digest 71 = .ok (.istore_n 1, 1) := by decide +kernel
theorem dX5_digest_72 : decode cX5_digest 72 = .ok (.iload_n 1, 1) := by decide +kernel
theorem dX5_digest_73 : decode cX5_digest 73 = .ok (.iconst 3, 1) := by decide +kernel
theorem dX5_digest_74 : decode cX5_digest 74 = .ok (.if_icmp .ge 48, 3) := by decide +kernel
theorem dX5_digest_77 : decode cX5_digest 77 = .ok (.iload_n 1, 1) := by decide +kernel
theorem dX5_digest_78 : decode cX5_digest 78 = .ok (.iconst 1, 1) := by decide +kernel
theorem dX5_digest_79 : decode cX5_digest 79 = .ok (.iadd, 1) := by decide +kernel
theorem dX5_digest_80 : decode cX5_digest 80 = .ok (.istore_n 2, 1) := by decide +kernel
theorem dX5_digest_81 : decode cX5_digest 81 = .ok (.iload_n 2, 1) := by decide +kernel
theorem dX5_digest_82 : decode cX5_digest 82 = .ok (.iconst 3, 1) := by decide +kernel
theorem dX5_digest_83 : decode cX5_digest 83 = .ok (.if_icmp .ge 33, 3) := by decide +kernel
theorem dX5_digest_86 : decode cX5_digest 86 = .ok (.aload_n 0, 1) := by decide +kernel
theorem dX5_digest_87 : decode cX5_digest 87 = .ok (.getfield 7, 3) := by decide +kernel
theorem dX5_digest_90 : decode cX5_digest 90 = .ok (.iload_n 1, 1) := by decide +kernel
theorem dX5_digest_91 : decode cX5_digest 91 = .ok (.baload, 1) := by decide +kernel
theorem dX5_digest_92 : decode cX5_digest 92 = .ok (.ifCond .eq 18, 3) := by decide +kernel
theorem dX5_digest_95 : decode cX5_digest 95 = .ok (.aload_n 0, 1) := by decide +kernel
theorem dX5_digest_96 : decode cX5_digest 96 = .ok (.getfield 7, 3) := by decide +kernel
theorem dX5_digest_99 : decode cX5_digest 99 = .ok (.iload_n 2, 1) := by decide +kernel
theorem dX5_digest_100 : decode cX5_digest 100 = .ok (.baload, 1) := by decide +kernel
theorem dX5_digest_101 : decode cX5_digest 101 = .ok (.ifCond .eq 9, 3) := by decide +kernel
theorem dX5_digest_104 : decode cX5_digest 104 = .ok (.aload_n 0, 1) := by decide +kernel
theorem dX5_digest_105 : decode cX5_digest 105 = .ok (.iload_n 1, 1) := by decide +kernel
theorem dX5_digest_106 : decode cX5_digest 106 = .ok (.iload_n 2, 1) := by decide +kernel
theorem dX5_digest_107 : decode cX5_digest 107 = .ok (.invokevirtual 290, 3) := by decide +kernel
theorem dX5_digest_110 : decode cX5_digest 110 = .ok (.iinc 2 1, 3) := by decide +kernel
theorem dX5_digest_113 : decode cX5_digest 113 = .ok (.goto (-32), 3) := by decide +kernel
theorem dX5_digest_116 : decode cX5_digest 116 = .ok (.iinc 1 1, 3) := by decide +kernel
theorem dX5_digest_119 : decode cX5_digest 119 = .ok (.goto (-47), 3) := by decide +kernel
theorem dX5_digest_122 : decode cX5_digest 122 = .ok (.iconst 0, 1) := by decide +kernel
theorem dX5_digest_123 : decode cX5_digest 123 = .ok (.istore_n 1, 1) := by decide +kernel
theorem dX5_digest_124 : decode cX5_digest 124 = .ok (.iload_n 1, 1) := by decide +kernel
theorem dX5_digest_125 : decode cX5_digest 125 = .ok (.aload_n 0, 1) := by decide +kernel
theorem dX5_digest_126 : decode cX5_digest 126 = .ok (.getfield 123, 3) := by decide +kernel
theorem dX5_digest_129 : decode cX5_digest 129 = .ok (.if_icmp .ge 20, 3) := by decide +kernel
theorem dX5_digest_132 : decode cX5_digest 132 = .ok (.aload_n 0, 1) := by decide +kernel
theorem dX5_digest_133 : decode cX5_digest 133 = .ok (.aload_n 0, 1) := by decide +kernel
theorem dX5_digest_134 : decode cX5_digest 134 = .ok (.getfield 26, 3) := by decide +kernel
theorem dX5_digest_137 : decode cX5_digest 137 = .ok (.iload_n 1, 1) := by decide +kernel
theorem dX5_digest_138 : decode cX5_digest 138 = .ok (.iaload, 1) := by decide +kernel
theorem dX5_digest_139 : decode cX5_digest 139 = .ok (.i2l, 1) := by decide +kernel
theorem dX5_digest_140 : decode cX5_digest 140 = .ok (.invokevirtual 281, 3) := by decide +kernel
theorem dX5_digest_143 : decode cX5_digest 143 = .ok (.iinc 1 1, 3) := by decide +kernel
theorem dX5_digest_146 : decode cX5_digest 146 = .ok (.goto (-22), 3) := by decide +kernel
theorem dX5_digest_149 : decode cX5_digest 149 = .ok (.aload_n 0, 1) := by decide +kernel
theorem dX5_digest_150 : decode cX5_digest 150 = .ok (.getfield 277, 3) := by decide +kernel
theorem dX5_digest_153 : decode cX5_digest 153 = .ok (.lreturn, 1) := by decide +kernel
theorem dJ9_floorDiv_7cf53_0 : decode cJ9_floorDiv_7cf53 0 = .ok (.iload_n 0, 1) := by decide +kernel
theorem dJ9_floorDiv_7cf53_1 : decode cJ9_floorDiv_7cf53 1 = .ok (.iload_n 1, 1) := by decide +kernel
theorem dJ9_floorDiv_7cf53_2 : decode cJ9_floorDiv_7cf53 2 = .ok (.idiv, 1) := by decide +kernel
theorem dJ9_floorDiv_7cf53_3 : decode cJ9_floorDiv_7cf53 3 = .ok (.istore_n 2, 1) := by decide +kernel
theorem dJ9_floorDiv_7cf53_4 : decode cJ9_floorDiv_7cf53 4 = .ok (.iload_n 0, 1) := by decide +kernel
theorem dJ9_floorDiv_7cf53_5 : decode cJ9_floorDiv_7cf53 5 = .ok (.iload_n 1, 1) := by decide +kernel
theorem dJ9_floorDiv_7cf53_6 : decode cJ9_floorDiv_7cf53 6 = .ok (.ixor, 1) := by decide +kernel
theorem dJ9_floorDiv_7cf53_7 : decode cJ9_floorDiv_7cf53 7 = .ok (.ifCond .ge 14, 3) := by decide +kernel
theorem dJ9_floorDiv_7cf53_10 : decode cJ9_floorDiv_7cf53 10 = .ok (.iload_n 2, 1) := by decide +kernel
theorem dJ9_floorDiv_7cf53_11 : decode cJ9_floorDiv_7cf53 11 = .ok (.iload_n 1, 1) := by decide +kernel
theorem dJ9_floorDiv_7cf53_12 : decode cJ9_floorDiv_7cf53 12 = .ok (.imul, 1) := by decide +kernel
theorem dJ9_floorDiv_7cf53_13 : decode cJ9_floorDiv_7cf53 13 = .ok (.iload_n 0, 1) := by decide +kernel
theorem dJ9_floorDiv_7cf53_14 : decode cJ9_floorDiv_7cf53 14 = .ok (.if_icmp .eq 7, 3) := by decide +kernel
theorem dJ9_floorDiv_7cf53_17 : decode cJ9_floorDiv_7cf53 17 = .ok (.iload_n 2, 1) := by decide +kernel
theorem dJ9_floorDiv_7cf53_18 : decode cJ9_floorDiv_7cf53 18 = .ok (.iconst 1, 1) := by decide +kernel
theorem dJ9_floorDiv_7cf53_19 : decode cJ9_floorDiv_7cf53 19 = .ok (.isub, 1) := by decide +kernel
theorem dJ9_floorDiv_7cf53_20 : decode cJ9_floorDiv_7cf53 20 = .ok (.ireturn, 1) := by decide +kernel
theorem dJ9_floorDiv_7cf53_21 : decode cJ9_floorDiv_7cf53 21 = .ok (.iload_n 2, 1) := by decide +kernel
theorem dJ9_floorDiv_7cf53_22 : decode cJ9_floorDiv_7cf53 22 = .ok (.ireturn, 1) := by decide +kernel
theorem dJ9_floorMod_7cf53_0 : decode cJ9_floorMod_7cf53 0 = .ok (.iload_n 0, 1) := by decide +kernel
theorem dJ9_floorMod_7cf53_1 : decode cJ9_floorMod_7cf53 1 = .ok (.iload_n 1, 1) := by decide +kernel
theorem dJ9_floorMod_7cf53_2 : decode cJ9_floorMod_7cf53 2 = .ok (.irem, 1) := by decide +kernel
theorem dJ9_floorMod_7cf53_3 : decode cJ9_floorMod_7cf53 3 = .ok (.istore_n 2, 1) := by decide +kernel
theorem dJ9_floorMod_7cf53_4 : decode cJ9_floorMod_7cf53 4 = .ok (.iload_n 0, 1) := by decide +kernel
theorem dJ9_floorMod_7cf53_5 : decode cJ9_floorMod_7cf53 5 = .ok (.iload_n 1, 1) := by decide +kernel
theorem dJ9_floorMod_7cf53_6 : decode cJ9_floorMod_7cf53 6 = .ok (.ixor, 1) := by decide +kernel
theorem dJ9_floorMod_7cf53_7 : decode cJ9_floorMod_7cf53 7 = .ok (.ifCond .ge 11, 3) := by decide +kernel
theorem dJ9_floorMod_7cf53_10 : decode cJ9_floorMod_7cf53 10 = .ok (.iload_n 2, 1) := by decide +kernel
theorem dJ9_floorMod_7cf53_11 : decode cJ9_floorMod_7cf53 11 = .ok (.ifCond .eq 7, 3) := by decide +kernel
theorem dJ9_floorMod_7cf53_14 : decode cJ9_floorMod_7cf53 14 = .ok (.iload_n 2, 1) := by decide +kernel
theorem dJ9_floorMod_7cf53_15 : decode cJ9_floorMod_7cf53 15 = .ok (.iload_n 1, 1) := by decide +kernel
theorem dJ9_floorMod_7cf53_16 : decode cJ9_floorMod_7cf53 16 = .ok (.iadd, 1) := by decide +kernel
theorem dJ9_floorMod_7cf53_17 : decode cJ9_floorMod_7cf53 17 = .ok (.ireturn, 1) := by decide +kernel
theorem dJ9_floorMod_7cf53_18 : decode cJ9_floorMod_7cf53 18 = .ok (.iload_n 2, 1) := by decide +kernel
theorem dJ9_floorMod_7cf53_19 : decode cJ9_floorMod_7cf53 19 = .ok (.ireturn, 1) := by decide +kernel
theorem dJ9_abs_0f7a4_0 : decode cJ9_abs_0f7a4 0 = .ok (.iload_n 0, 1) := by decide +kernel
theorem dJ9_abs_0f7a4_1 : decode cJ9_abs_0f7a4 1 = .ok (.ifCond .ge 8, 3) := by decide +kernel
theorem dJ9_abs_0f7a4_4 : decode cJ9_abs_0f7a4 4 = .ok (.iload_n 0, 1) := by decide +kernel
theorem dJ9_abs_0f7a4_5 : decode cJ9_abs_0f7a4 5 = .ok (.ineg, 1) := by decide +kernel
theorem dJ9_abs_0f7a4_6 : decode cJ9_abs_0f7a4 6 = .ok (.goto 4, 3) := by decide +kernel
theorem dJ9_abs_0f7a4_9 : decode cJ9_abs_0f7a4 9 = .ok (.iload_n 0, 1) := by decide +kernel
theorem dJ9_abs_0f7a4_10 : decode cJ9_abs_0f7a4 10 = .ok (.ireturn, 1) := by decide +kernel
theorem dJ9_max_7cf53_0 : decode cJ9_max_7cf53 0 = .ok (.iload_n 0, 1) := by decide +kernel
theorem dJ9_max_7cf53_1 : decode cJ9_max_7cf53 1 = .ok (.iload_n 1, 1) := by decide +kernel
theorem dJ9_max_7cf53_2 : decode cJ9_max_7cf53 2 = .ok (.if_icmp .lt 7, 3) := by decide +kernel
theorem dJ9_max_7cf53_5 : decode cJ9_max_7cf53 5 = .ok (.iload_n 0, 1) := by decide +kernel
theorem dJ9_max_7cf53_6 : decode cJ9_max_7cf53 6 = .ok (.goto 4, 3) := by decide +kernel
theorem dJ9_max_7cf53_9 : decode cJ9_max_7cf53 9 = .ok (.iload_n 1, 1) := by decide +kernel
theorem dJ9_max_7cf53_10 : decode cJ9_max_7cf53 10 = .ok (.ireturn, 1) := by decide +kernel
theorem dJ9_min_7cf53_0 : decode cJ9_min_7cf53 0 = .ok (.iload_n 0, 1) := by decide +kernel
theorem dJ9_min_7cf53_1 : decode cJ9_min_7cf53 1 = .ok (.iload_n 1, 1) := by decide +kernel
theorem dJ9_min_7cf53_2 : decode cJ9_min_7cf53 2 = .ok (.if_icmp .gt 7, 3) := by decide +kernel
theorem dJ9_min_7cf53_5 : decode cJ9_min_7cf53 5 = .ok (.iload_n 0, 1) := by decide +kernel
theorem dJ9_min_7cf53_6 : decode cJ9_min_7cf53 6 = .ok (.goto 4, 3) := by decide +kernel
theorem dJ9_min_7cf53_9 : decode cJ9_min_7cf53 9 = .ok (.iload_n 1, 1) := by decide +kernel
theorem dJ9_min_7cf53_10 : decode cJ9_min_7cf53 10 = .ok (.ireturn, 1) := by decide +kernel
