set_option maxRecDepth 20000 in
theorem ggX4_init_X1_init : GoodIn wsX4_init wsX1_init := goodIn_r _ [21, 22, 2, 3, 23, 24, 25, 55, 56, 57, 58, 59, 60, 61, 62] (by decide +kernel) (by decide +kernel)
set_option maxRecDepth 20000 in
theorem gX4_init_X1_init_n17 : GoodIn wsX4_init (wsX1_init) := ggX4_init_X1_init
set_option maxRecDepth 20000 in
theorem ggX4_init_X0_init : GoodIn wsX4_init wsX0_init := goodIn_r _ [27, 28, 2, 3, 23, 29, 30, 31, 32, 63, 64, 65, 66, 67, 68, 69, 70, 71, 72] (by decide +kernel) (by decide +kernel)
set_option maxRecDepth 20000 in
theorem gX4_init_X0_init_n24 : GoodIn wsX4_init (wsX0_init) := ggX4_init_X0_init
set_option maxRecDepth 20000 in
theorem ggX4_init_X2_init : GoodIn wsX4_init wsX2_init := goodIn_r _ [34, 35, 2, 3, 36, 37, 38, 73, 74, 75] (by decide +kernel) (by decide +kernel)
set_option maxRecDepth 20000 in
theorem gX4_init_X2_init_n31 : GoodIn wsX4_init (wsX2_init) := ggX4_init_X2_init
set_option maxRecDepth 20000 in
theorem ggX4_init_X3_init : GoodIn wsX4_init wsX3_init := goodIn_r _ [40, 41, 2, 3, 42, 15, 16, 43, 23, 44, 45, 46, 47, 48, 49, 33, 34, 35, 36, 37, 38, 73, 74, 75, 76, 77, 78, 79, 80, 81, 82, 83, 84, 85, 86, 87, 88, 89, 90] (by decide +kernel) (by decide +kernel)
set_option maxRecDepth 20000 in
theorem gX4_init_X3_init_n36 : GoodIn wsX4_init (wsX3_init) := ggX4_init_X3_init
theorem dX4_init_0 : decode cX4_init 0 = .ok (.aload_n 0, 1) := by decide +kernel
theorem dX4_init_1 : decode cX4_init 1 = .ok (.invokespecial 3, 3) := by decide +kernel
theorem dX4_init_4 : decode cX4_init 4 = .ok (.aload_n 0, 1) := by decide +kernel
theorem dX4_init_5 : decode cX4_init 5 = .ok (.iconst 3, 1) := by decide +kernel
theorem dX4_init_6 : decode cX4_init 6 = .ok (.anewarray 9, 3) := by decide +kernel
theorem dX4_init_9 : decode cX4_init 9 = .ok (.putfield 11, 3) := by decide +kernel
theorem dX4_init_12 : decode cX4_init 12 = .ok (.aload_n 0, 1) := by decide +kernel
theorem dX4_init_13 : decode cX4_init 13 = .ok (.new 15, 3) := by decide +kernel
theorem dX4_init_16 : decode cX4_init 16 = .ok (.dup, 1) := by decide +kernel
theorem dX4_init_17 : decode cX4_init 17 = .ok (.invokespecial 17, 3) := by decide +kernel
theorem dX4_init_20 : decode cX4_init 20 = .ok (.putfield 18, 3) := by decide +kernel
theorem dX4_init_23 : decode cX4_init 23 = .ok (.aload_n 0, 1) := by decide +kernel
theorem dX4_init_24 : decode cX4_init 24 = .ok (.new 22, 3) := by decide +kernel
theorem dX4_init_27 : decode cX4_init 27 = .ok (.dup, 1) := by decide +kernel
theorem dX4_init_28 : decode cX4_init 28 = .ok (.invokespecial 24, 3) := by decide +kernel
theorem dX4_init_31 : decode cX4_init 31 = .ok (.putfield 25, 3) := by decide +kernel
theorem dX4_init_34 : decode cX4_init 34 = .ok (.aload_n 0, 1) := by decide +kernel
theorem dX4_init_35 : decode cX4_init 35 = .ok (.new 29, 3) := by decide +kernel
theorem dX4_init_38 : decode cX4_init 38 = .ok (.dup, 1) := by decide +kernel
theorem dX4_init_39 : decode cX4_init 39 = .ok (.invokespecial 31, 3) := by decide +kernel
theorem dX4_init_42 : decode cX4_init 42 = .ok (.putfield 32, 3) := by decide +kernel
theorem dX4_init_45 : decode cX4_init 45 = .ok (.iconst 0, 1) := by decide +kernel
theorem dX4_init_46 : decode cX4_init 46 = .ok (.istore_n 1, 1) := by decide +kernel
theorem dX4_init_47 : decode cX4_init 47 = .ok (.iload_n 1, 1) := by decide +kernel
theorem dX4_init_48 : decode cX4_init 48 = .ok (.aload_n 0, 1) := by decide +kernel
theorem dX4_init_49 : decode cX4_init 49 = .ok (.getfield 11, 3) := by decide +kernel
theorem dX4_init_52 : decode cX4_init 52 = .ok (.arraylength, 1) := by decide +kernel
theorem dX4_init_53 : decode cX4_init 53 = .ok (.if_icmp .ge 22, 3) := by decide +kernel
theorem dX4_init_56 : decode cX4_init 56 = .ok (.aload_n 0, 1) := by decide +kernel
theorem dX4_init_57 : decode cX4_init 57 = .ok (.getfield 11, 3) := by decide +kernel
theorem dX4_init_60 : decode cX4_init 60 = .ok (.iload_n 1, 1) := by decide +kernel
theorem dX4_init_61 : decode cX4_init 61 = .ok (.new 9, 3) := by decide +kernel
theorem dX4_init_64 : decode cX4_init 64 = .ok (.dup, 1) := by decide +kernel
theorem dX4_init_65 : decode cX4_init 65 = .ok (.invokespecial 36, 3) := by decide +kernel
theorem dX4_init_68 : decode cX4_init 68 = .ok (.aastore, 1) := by decide +kernel
theorem dX4_init_69 : decode cX4_init 69 = .ok (.iinc 1 1, 3) := by decide +kernel
theorem dX4_init_72 : decode cX4_init 72 = .ok (.goto (-25), 3) := by decide +kernel
theorem dX4_init_75 : decode cX4_init 75 = .ok (.return_, 1) := by decide +kernel
set_option maxRecDepth 20000 in
theorem ggX4_append_X4_needArgument : GoodIn wsX4_append wsX4_needArgument := goodIn_ca (goodIn_r _ [6, 7, 8] (by decide +kernel) (by decide +kernel)) (goodIn_sub (fun _ h => List.mem_cons_of_mem _ (List.mem_append_left _ (List.mem_append_right _ h))) (by decide +kernel))
set_option maxRecDepth 20000 in
theorem gX4_append_X4_needArgument : GoodIn wsX4_append (va_wsS RX4 37 yX4_needArgument wsX4_needArgument) := goodIn_app (goodIn_of _ (by decide +kernel)) ggX4_append_X4_needArgument
set_option maxRecDepth 20000 in
theorem ggX4_append_X4_needState : GoodIn wsX4_append wsX4_needState := goodIn_ca (goodIn_r _ [11, 12, 13] (by decide +kernel) (by decide +kernel)) (goodIn_sub (fun _ h => List.mem_cons_of_mem _ (List.mem_append_right _ h)) (by decide +kernel))
set_option maxRecDepth 20000 in
theorem gX4_append_X4_needState : GoodIn wsX4_append (va_wsS RX4 45 yX4_needState wsX4_needState) := goodIn_app (goodIn_of _ (by decide +kernel)) ggX4_append_X4_needState
set_option maxRecDepth 20000 in
theorem ggX4_append_X1_add : GoodIn wsX4_append wsX1_add := goodIn_r _ [18, 19, 20, 21, 5, 22, 28, 29, 30, 31, 32, 33, 34, 35] (by decide +kernel) (by decide +kernel)
set_option maxRecDepth 20000 in
theorem gX4_append_X1_add : GoodIn wsX4_append (wsV RX4 48 RX1 yX1_add wsX1_add) := goodIn_app (goodIn_of _ (by decide +kernel)) ggX4_append_X1_add
theorem dX4_append_0 : decode cX4_append 0 = .ok (.iload_n 1, 1) := by decide +kernel
theorem dX4_append_1 : decode cX4_append 1 = .ok (.bipush 32, 2) := by decide +kernel
theorem dX4_append_3 : decode cX4_append 3 = .ok (.if_icmp .lt 13, 3) := by decide +kernel
theorem dX4_append_6 : decode cX4_append 6 = .ok (.iload_n 1, 1) := by decide +kernel
theorem dX4_append_7 : decode cX4_append 7 = .ok (.bipush 126, 2) := by decide +kernel
theorem dX4_append_9 : decode cX4_append 9 = .ok (.if_icmp .gt 7, 3) := by decide +kernel
theorem dX4_append_12 : decode cX4_append 12 = .ok (.iconst 1, 1) := by decide +kernel
theorem dX4_append_13 : decode cX4_append 13 = .ok (.goto 4, 3) := by decide +kernel
theorem dX4_append_16 : decode cX4_append 16 = .ok (.iconst 0, 1) := by decide +kernel
theorem dX4_append_17 : decode cX4_append 17 = .ok (.invokestatic 37, 3) := by decide +kernel
theorem dX4_append_20 : decode cX4_append 20 = .ok (.aload_n 0, 1) := by decide +kernel
theorem dX4_append_21 : decode cX4_append 21 = .ok (.getfield 18, 3) := by decide +kernel
theorem dX4_append_24 : decode cX4_append 24 = .ok (.getfield 41, 3) := by decide +kernel
theorem dX4_append_27 : decode cX4_append 27 = .ok (.bipush 20, 2) := by decide +kernel
theorem dX4_append_29 : decode cX4_append 29 = .ok (.if_icmp .ge 7, 3) := by decide +kernel
theorem dX4_append_32 : decode cX4_append 32 = .ok (.iconst 1, 1) := by decide +kernel
theorem dX4_append_33 : decode cX4_append 33 = .ok (.goto 4, 3) := by decide +kernel
theorem dX4_append_36 : decode cX4_append 36 = .ok (.iconst 0, 1) := by decide +kernel
theorem dX4_append_37 : decode cX4_append 37 = .ok (.invokestatic 45, 3) := by decide +kernel
theorem dX4_append_40 : decode cX4_append 40 = .ok (.aload_n 0, 1) := by decide +kernel
theorem dX4_append_41 : decode cX4_append 41 = .ok (.getfield 18, 3) := by decide +kernel
theorem dX4_append_44 : decode cX4_append 44 = .ok (.iload_n 1, 1) := by decide +kernel
theorem dX4_append_45 : decode cX4_append 45 = .ok (.invokevirtual 48, 3) := by decide +kernel
theorem dX4_append_48 : decode cX4_append 48 = .ok (.ireturn, 1) := by decide +kernel
theorem dX4_clearInput_0 : decode cX4_clearInput 0 = .ok (.aload_n 0, 1) := by decide +kernel
theorem dX4_clearInput_1 : decode cX4_clearInput 1 = .ok (.getfield 18, 3) := by decide +kernel
theorem dX4_clearInput_4 : decode cX4_clearInput 4 = .ok (.getfield 41, 3) := by decide +kernel
theorem dX4_clearInput_7 : decode cX4_clearInput 7 = .ok (.istore_n 1, 1) := by decide +kernel
theorem dX4_clearInput_8 : decode cX4_clearInput 8 = .ok (.aload_n 0, 1) := by decide +kernel
theorem dX4_clearInput_9 : decode cX4_clearInput 9 = .ok (.getfield 18, 3) := by decide +kernel
theorem dX4_clearInput_12 : decode cX4_clearInput 12 = .ok (.iconst 0, 1) := by decide +kernel
theorem dX4_clearInput_13 : decode cX4_clearInput 13 = .ok (.putfield 41, 3) := by decide +kernel
theorem dX4_clearInput_16 : decode cX4_clearInput 16 = .ok (.iload_n 1, 1) := by decide +kernel
theorem dX4_clearInput_17 : decode cX4_clearInput 17 = .ok (.ireturn, 1) := by decide +kernel
set_option maxRecDepth 20000 in
theorem ggX4_firstError_X1_read : GoodIn wsX4_firstError wsX1_read := goodIn_r _ [6, 7, 8, 9, 10, 11, 12, 13, 14, 15, 16, 17, 18, 19, 5, 20, 21, 22, 23, 24, 25, 26, 27, 28, 29, 30, 31, 32, 33, 34, 35, 36, 37, 38, 39, 40, 41, 42, 43, 49, 50, 51, 52, 53, 54, 55, 56] (by decide +kernel) (by decide +kernel)
set_option maxRecDepth 20000 in
theorem gX4_firstError_X1_read : GoodIn wsX4_firstError (wsV RX4 52 RX1 yX1_read wsX1_read) := goodIn_app (goodIn_of _ (by decide +kernel)) ggX4_firstError_X1_read
theorem dX4_firstError_0 : decode cX4_firstError 0 = .ok (.aload_n 0, 1) := by decide +kernel
theorem dX4_firstError_1 : decode cX4_firstError 1 = .ok (.getfield 18, 3) := by decide +kernel
theorem dX4_firstError_4 : decode cX4_firstError 4 = .ok (.invokevirtual 52, 3) := by decide +kernel
theorem dX4_firstError_7 : decode cX4_firstError 7 = .ok (.ireturn, 1) := by decide +kernel
set_option maxRecDepth 20000 in
theorem ggX4_load_X4_inSlot : GoodIn wsX4_load wsX4_inSlot := goodIn_ca (goodIn_r _ [10, 11, 12, 13, 182, 183, 184, 185, 186] (by decide +kernel) (by decide +kernel)) (goodIn_sub (fun _ h => List.mem_cons_of_mem _ (List.mem_append_left _ (List.mem_append_left _ (List.mem_append_right _ h)))) (by decide +kernel))
set_option maxRecDepth 20000 in
theorem gX4_load_X4_inSlot : GoodIn wsX4_load (wsV RX4 56 RX4 yX4_inSlot wsX4_inSlot) := goodIn_app (goodIn_of _ (by decide +kernel)) ggX4_load_X4_inSlot
set_option maxRecDepth 20000 in
theorem ggX4_load_X1_isComplete : GoodIn wsX4_load wsX1_isComplete := goodIn_r _ [18, 19, 20, 21, 22, 23, 17, 24, 25, 26, 27, 28, 29, 30, 9, 31, 32, 33, 34, 35, 36, 37, 38, 39, 40, 41, 42, 43, 44, 45, 46, 47, 48, 49, 50, 51, 52, 53, 54, 55, 56, 57, 58, 187, 188, 189, 190, 191, 192, 193, 194] (by decide +kernel) (by decide +kernel)
set_option maxRecDepth 20000 in
theorem gX4_load_X1_isComplete : GoodIn wsX4_load (wsV RX4 60 RX1 yX1_isComplete wsX1_isComplete) := goodIn_app (goodIn_of _ (by decide +kernel)) ggX4_load_X1_isComplete
set_option maxRecDepth 20000 in
theorem ggX4_load_X4_needState : GoodIn wsX4_load wsX4_needState := goodIn_ca (goodIn_r _ [61, 62, 63] (by decide +kernel) (by decide +kernel)) (goodIn_sub (fun _ h => List.mem_cons_of_mem _ (List.mem_append_left _ (List.mem_append_right _ h))) (by decide +kernel))
set_option maxRecDepth 20000 in
theorem gX4_load_X4_needState : GoodIn wsX4_load (va_wsS RX4 45 yX4_needState wsX4_needState) := goodIn_app (goodIn_of _ (by decide +kernel)) ggX4_load_X4_needState
set_option maxRecDepth 20000 in
theorem ggX4_load_X4_at : GoodIn wsX4_load wsX4_at := goodIn_r _ [31] (by decide +kernel) (by decide +kernel)
set_option maxRecDepth 20000 in
theorem gX4_load_X4_at : GoodIn wsX4_load (va_wsS RX4 68 yX4_at wsX4_at) := goodIn_app (goodIn_of _ (by decide +kernel)) ggX4_load_X4_at
set_option maxRecDepth 20000 in
theorem ggX4_load_X4_areaOf : GoodIn wsX4_load wsX4_areaOf := goodIn_r _ [67, 68, 69, 70, 71] (by decide +kernel) (by decide +kernel)
set_option maxRecDepth 20000 in
theorem gX4_load_X4_areaOf : GoodIn wsX4_load (va_wsS RX4 72 yX4_areaOf wsX4_areaOf) := goodIn_app (goodIn_of _ (by decide +kernel)) ggX4_load_X4_areaOf
set_option maxRecDepth 20000 in
theorem ggX4_load_X4_isArea : GoodIn wsX4_load wsX4_isArea := goodIn_r _ [74] (by decide +kernel) (by decide +kernel)
set_option maxRecDepth 20000 in
theorem gX4_load_X4_isArea : GoodIn wsX4_load (va_wsS RX4 76 yX4_isArea wsX4_isArea) := goodIn_app (goodIn_of _ (by decide +kernel)) ggX4_load_X4_isArea
set_option maxRecDepth 20000 in
theorem ggX4_load_X4_needArgument : GoodIn wsX4_load wsX4_needArgument := goodIn_ca (goodIn_r _ [77, 78, 79] (by decide +kernel) (by decide +kernel)) (goodIn_sub (fun _ h => List.mem_cons_of_mem _ (List.mem_append_right _ h)) (by decide +kernel))
set_option maxRecDepth 20000 in
theorem gX4_load_X4_needArgument : GoodIn wsX4_load (va_wsS RX4 37 yX4_needArgument wsX4_needArgument) := goodIn_app (goodIn_of _ (by decide +kernel)) ggX4_load_X4_needArgument
set_option maxRecDepth 20000 in
theorem ggX4_load_X3_become : GoodIn wsX4_load wsX3_become := goodIn_r _ [84, 85, 86, 87, 88, 89, 90, 91, 92, 195, 196, 197, 198, 199, 200, 201, 202, 203, 204, 205, 206, 207, 208, 209] (by decide +kernel) (by decide +kernel)
set_option maxRecDepth 20000 in
theorem gX4_load_X3_become : GoodIn wsX4_load (wsV RX4 87 RX3 yX3_become wsX3_become) := goodIn_app (goodIn_of _ (by decide +kernel)) ggX4_load_X3_become
set_option maxRecDepth 20000 in
theorem ggX4_load_X3_regrow : GoodIn wsX4_load wsX3_regrow := goodIn_r _ [96, 97, 98, 99, 100, 101, 102, 103, 85, 86, 87, 88, 104, 105, 106, 107, 108, 109, 110, 69, 70, 71, 111, 112, 113, 9, 114, 115, 116, 68, 117, 118, 119, 120, 121, 122, 123, 124, 125, 83, 126, 127, 128, 129, 130, 131, 132, 133, 134, 135, 136, 137, 138, 139, 140, 141, 30, 31, 142, 143, 144, 145, 45, 46, 146, 147, 148, 149, 89, 150, 90, 151, 152, 153, 154, 155, 156, 157, 158, 159, 160, 161, 162, 163, 164, 165, 166, 167, 168, 169, 170, 171, 172, 173, 174, 175, 176, 177, 178, 179, 180, 195, 196, 197, 198, 199, 200, 201, 202, 203, 204, 205, 206, 207, 208, 209, 210, 211, 212] (by decide +kernel) (by decide +kernel)
set_option maxRecDepth 20000 in
theorem gX4_load_X3_regrow : GoodIn wsX4_load (wsV RX4 91 RX3 yX3_regrow wsX3_regrow) := goodIn_app (goodIn_of _ (by decide +kernel)) ggX4_load_X3_regrow
set_option maxRecDepth 20000 in
theorem ggX4_load_X3_area : GoodIn wsX4_load wsX3_area := goodIn_r _ [132, 103, 133, 134, 135, 107, 136, 109, 111, 195, 196, 197, 198, 199, 200, 201, 202, 203, 204, 205, 206, 207, 208, 209, 210, 211, 212] (by decide +kernel) (by decide +kernel)
set_option maxRecDepth 20000 in
theorem gX4_load_X3_area : GoodIn wsX4_load (wsV RX4 94 RX3 yX3_area wsX3_area) := goodIn_app (goodIn_of _ (by decide +kernel)) ggX4_load_X3_area
theorem dX4_load_0 : decode cX4_load 0 = .ok (.aload_n 0, 1) := by decide +kernel
theorem dX4_load_1 : decode cX4_load 1 = .ok (.iload_n 1, 1) := by decide +kernel
theorem dX4_load_2 : decode cX4_load 2 = .ok (.invokevirtual 56, 3) := by decide +kernel
theorem dX4_load_5 : decode cX4_load 5 = .ok (.astore_n 2, 1) := by decide +kernel
theorem dX4_load_6 : decode cX4_load 6 = .ok (.aload_n 0, 1) := by decide +kernel
theorem dX4_load_7 : decode cX4_load 7 = .ok (.getfield 18, 3) := by decide +kernel
theorem dX4_load_10 : decode cX4_load 10 = .ok (.invokevirtual 60, 3) := by decide +kernel
theorem dX4_load_13 : decode cX4_load 13 = .ok (.invokestatic 45, 3) := by decide +kernel
theorem dX4_load_16 : decode cX4_load 16 = .ok (.aload_n 0, 1) := by decide +kernel
theorem dX4_load_17 : decode cX4_load 17 = .ok (.getfield 18, 3) := by decide +kernel
theorem dX4_load_20 : decode cX4_load 20 = .ok (.getfield 64, 3) := by decide +kernel
theorem dX4_load_23 : decode cX4_load 23 = .ok (.iconst 0, 1) := by decide +kernel
theorem dX4_load_24 : decode cX4_load 24 = .ok (.invokestatic 68, 3) := by decide +kernel
theorem dX4_load_27 : decode cX4_load 27 = .ok (.istore_n 3, 1) := by decide +kernel
theorem dX4_load_28 : decode cX4_load 28 = .ok (.aload_n 0, 1) := by decide +kernel
theorem dX4_load_29 : decode cX4_load 29 = .ok (.getfield 18, 3) := by decide +kernel
theorem dX4_load_32 : decode cX4_load 32 = .ok (.getfield 64, 3) := by decide +kernel
theorem dX4_load_35 : decode cX4_load 35 = .ok (.iconst 1, 1) := by decide +kernel
theorem dX4_load_36 : decode cX4_load 36 = .ok (.invokestatic 68, 3) := by decide +kernel
theorem dX4_load_39 : decode cX4_load 39 = .ok (.istore 4, 2) := by decide +kernel
theorem dX4_load_41 : decode cX4_load 41 = .ok (.aload_n 0, 1) := by decide +kernel
theorem dX4_load_42 : decode cX4_load 42 = .ok (.getfield 18, 3) := by decide +kernel
theorem dX4_load_45 : decode cX4_load 45 = .ok (.getfield 64, 3) := by decide +kernel
theorem dX4_load_48 : decode cX4_load 48 = .ok (.iconst 2, 1) := by decide +kernel
theorem dX4_load_49 : decode cX4_load 49 = .ok (.invokestatic 68, 3) := by decide +kernel
theorem dX4_load_52 : decode cX4_load 52 = .ok (.istore 5, 2) := by decide +kernel
theorem dX4_load_54 : decode cX4_load 54 = .ok (.aload_n 0, 1) := by decide +kernel
theorem dX4_load_55 : decode cX4_load 55 = .ok (.getfield 18, 3) := by decide +kernel
theorem dX4_load_58 : decode cX4_load 58 = .ok (.getfield 64, 3) := by decide +kernel
theorem dX4_load_61 : decode cX4_load 61 = .ok (.iconst 3, 1) := by decide +kernel
theorem dX4_load_62 : decode cX4_load 62 = .ok (.invokestatic 68, 3) := by decide +kernel
theorem dX4_load_65 : decode cX4_load 65 = .ok (.istore 6, 2) := by decide +kernel
theorem dX4_load_67 : decode cX4_load 67 = .ok (.iload_n 3, 1) := by decide +kernel
theorem dX4_load_68 : decode cX4_load 68 = .ok (.iload 4, 2) := by decide +kernel
theorem dX4_load_70 : decode cX4_load 70 = .ok (.iload 5, 2) := by decide +kernel
theorem dX4_load_72 : decode cX4_load 72 = .ok (.iload 6, 2) := by decide +kernel
theorem dX4_load_74 : decode cX4_load 74 = .ok (.invokestatic 72, 3) := by decide +kernel
theorem dX4_load_77 : decode cX4_load 77 = .ok (.invokestatic 76, 3) := by decide +kernel
theorem dX4_load_80 : decode cX4_load 80 = .ok (.invokestatic 37, 3) := by decide +kernel
theorem dX4_load_83 : decode cX4_load 83 = .ok (.aload_n 2, 1) := by decide +kernel
theorem dX4_load_84 : decode cX4_load 84 = .ok (.iload_n 3, 1) := by decide +kernel
theorem dX4_load_85 : decode cX4_load 85 = .ok (.iload 4, 2) := by decide +kernel
theorem dX4_load_87 : decode cX4_load 87 = .ok (.iload 5, 2) := by decide +kernel
theorem dX4_load_89 : decode cX4_load 89 = .ok (.iload 6, 2) := by decide +kernel
theorem dX4_load_91 : decode cX4_load 91 = .ok (.aload_n 0, 1) := by decide +kernel
theorem dX4_load_92 : decode cX4_load 92 = .ok (.getfield 18, 3) := by decide +kernel
theorem dX4_load_95 : decode cX4_load 95 = .ok (.getfield 80, 3) := by decide +kernel
theorem dX4_load_98 : decode cX4_load 98 = .ok (.aload_n 0, 1) := by decide +kernel
theorem dX4_load_99 : decode cX4_load 99 = .ok (.getfield 18, 3) := by decide +kernel
theorem dX4_load_102 : decode cX4_load 102 = .ok (.getfield 83, 3) := by decide +kernel
theorem dX4_load_105 : decode cX4_load 105 = .ok (.invokevirtual 87, 3) := by decide +kernel
theorem dX4_load_108 : decode cX4_load 108 = .ok (.aload_n 2, 1) := by decide +kernel
theorem dX4_load_109 : decode cX4_load 109 = .ok (.invokevirtual 91, 3) := by decide +kernel
theorem dX4_load_112 : decode cX4_load 112 = .ok (.pop, 1) := by decide +kernel
theorem dX4_load_113 : decode cX4_load 113 = .ok (.aload_n 0, 1) := by decide +kernel
theorem dX4_load_114 : decode cX4_load 114 = .ok (.getfield 18, 3) := by decide +kernel
theorem dX4_load_117 : decode cX4_load 117 = .ok (.iconst 0, 1) := by decide +kernel
theorem dX4_load_118 : decode cX4_load 118 = .ok (.putfield 41, 3) := by decide +kernel
theorem dX4_load_121 : decode cX4_load 121 = .ok (.aload_n 2, 1) := by decide +kernel
theorem dX4_load_122 : decode cX4_load 122 = .ok (.invokevirtual 94, 3) := by decide +kernel
theorem dX4_load_125 : decode cX4_load 125 = .ok (.ireturn, 1) := by decide +kernel
set_option maxRecDepth 20000 in
theorem ggX4_setScreen_X4_inSlot : GoodIn wsX4_setScreen wsX4_inSlot := goodIn_ca (goodIn_r _ [5, 6, 7, 8, 133, 134, 135, 136, 137] (by decide +kernel) (by decide +kernel)) (goodIn_sub (fun _ h => List.mem_cons_of_mem _ (List.mem_append_left _ (List.mem_append_right _ h))) (by decide +kernel))
set_option maxRecDepth 20000 in
theorem gX4_setScreen_X4_inSlot : GoodIn wsX4_setScreen (wsV RX4 56 RX4 yX4_inSlot wsX4_inSlot) := goodIn_app (goodIn_of _ (by decide +kernel)) ggX4_setScreen_X4_inSlot
set_option maxRecDepth 20000 in
theorem ggX4_setScreen_X4_isComponent : GoodIn wsX4_setScreen wsX4_isComponent := goodIn_r _ [11] (by decide +kernel) (by decide +kernel)
set_option maxRecDepth 20000 in
theorem gX4_setScreen_X4_isComponent : GoodIn wsX4_setScreen (va_wsS RX4 97 yX4_isComponent wsX4_isComponent) := goodIn_app (goodIn_of _ (by decide +kernel)) ggX4_setScreen_X4_isComponent
set_option maxRecDepth 20000 in
theorem ggX4_setScreen_X4_needArgument : GoodIn wsX4_setScreen wsX4_needArgument := goodIn_ca (goodIn_r _ [14, 15, 16] (by decide +kernel) (by decide +kernel)) (goodIn_sub (fun _ h => List.mem_cons_of_mem _ (List.mem_append_right _ h)) (by decide +kernel))
set_option maxRecDepth 20000 in
theorem gX4_setScreen_X4_needArgument : GoodIn wsX4_setScreen (va_wsS RX4 37 yX4_needArgument wsX4_needArgument) := goodIn_app (goodIn_of _ (by decide +kernel)) ggX4_setScreen_X4_needArgument
set_option maxRecDepth 20000 in
theorem ggX4_setScreen_X4_areaOf : GoodIn wsX4_setScreen wsX4_areaOf := goodIn_r _ [19, 20, 21, 22, 23] (by decide +kernel) (by decide +kernel)
set_option maxRecDepth 20000 in
theorem gX4_setScreen_X4_areaOf : GoodIn wsX4_setScreen (va_wsS RX4 72 yX4_areaOf wsX4_areaOf) := goodIn_app (goodIn_of _ (by decide +kernel)) ggX4_setScreen_X4_areaOf
set_option maxRecDepth 20000 in
theorem ggX4_setScreen_X4_isArea : GoodIn wsX4_setScreen wsX4_isArea := goodIn_r _ [26] (by decide +kernel) (by decide +kernel)
set_option maxRecDepth 20000 in
theorem gX4_setScreen_X4_isArea : GoodIn wsX4_setScreen (va_wsS RX4 76 yX4_isArea wsX4_isArea) := goodIn_app (goodIn_of _ (by decide +kernel)) ggX4_setScreen_X4_isArea
set_option maxRecDepth 20000 in
theorem ggX4_setScreen_X3_become : GoodIn wsX4_setScreen wsX3_become := goodIn_r _ [31, 32, 33, 34, 35, 36, 37, 38, 39, 138, 139, 140, 141, 142, 143, 144, 145, 146, 147, 148, 149, 150, 151, 152] (by decide +kernel) (by decide +kernel)
set_option maxRecDepth 20000 in
theorem gX4_setScreen_X3_become : GoodIn wsX4_setScreen (wsV RX4 87 RX3 yX3_become wsX3_become) := goodIn_app (goodIn_of _ (by decide +kernel)) ggX4_setScreen_X3_become
set_option maxRecDepth 20000 in
theorem ggX4_setScreen_X3_regrow : GoodIn wsX4_setScreen wsX3_regrow := goodIn_r _ [43, 44, 45, 46, 47, 48, 49, 50, 32, 33, 34, 35, 51, 52, 53, 54, 55, 56, 57, 21, 22, 23, 58, 59, 60, 4, 61, 62, 63, 20, 64, 65, 66, 67, 68, 69, 70, 71, 72, 30, 73, 74, 75, 76, 77, 78, 79, 80, 81, 82, 83, 84, 85, 86, 87, 88, 89, 90, 91, 92, 93, 94, 95, 96, 97, 98, 99, 100, 36, 101, 37, 102, 103, 104, 105, 106, 107, 108, 109, 110, 111, 112, 113, 114, 115, 116, 117, 118, 119, 120, 121, 122, 123, 124, 125, 126, 127, 128, 129, 130, 131, 138, 139, 140, 141, 142, 143, 144, 145, 146, 147, 148, 149, 150, 151, 152, 153, 154, 155] (by decide +kernel) (by decide +kernel)
set_option maxRecDepth 20000 in
theorem gX4_setScreen_X3_regrow : GoodIn wsX4_setScreen (wsV RX4 91 RX3 yX3_regrow wsX3_regrow) := goodIn_app (goodIn_of _ (by decide +kernel)) ggX4_setScreen_X3_regrow
set_option maxRecDepth 20000 in
theorem ggX4_setScreen_X3_area : GoodIn wsX4_setScreen wsX3_area := goodIn_r _ [79, 50, 80, 81, 82, 54, 83, 56, 58, 138, 139, 140, 141, 142, 143, 144, 145, 146, 147, 148, 149, 150, 151, 152, 153, 154, 155] (by decide +kernel) (by decide +kernel)
set_option maxRecDepth 20000 in
theorem gX4_setScreen_X3_area : GoodIn wsX4_setScreen (wsV RX4 94 RX3 yX3_area wsX3_area) := goodIn_app (goodIn_of _ (by decide +kernel)) ggX4_setScreen_X3_area
theorem dX4_setScreen_0 : decode cX4_setScreen 0 = .ok (.aload_n 0, 1) := by decide +kernel
theorem dX4_setScreen_1 : decode cX4_setScreen 1 = .ok (.iload_n 1, 1) := by decide +kernel
theorem dX4_setScreen_2 : decode cX4_setScreen 2 = .ok (.invokevirtual 56, 3) := by decide +kernel
theorem dX4_setScreen_5 : decode cX4_setScreen 5 = .ok (.astore 7, 2) := by decide +kernel
theorem dX4_setScreen_7 : decode cX4_setScreen 7 = .ok (.iload_n 2, 1) := by decide +kernel
theorem dX4_setScreen_8 : decode cX4_setScreen 8 = .ok (.invokestatic 97, 3) := by decide +kernel
theorem dX4_setScreen_11 : decode cX4_setScreen 11 = .ok (.ifCond .eq 30, 3) := by decide +kernel
theorem dX4_setScreen_14 : decode cX4_setScreen 14 = .ok (.iload_n 3, 1) := by decide +kernel
theorem dX4_setScreen_15 : decode cX4_setScreen 15 = .ok (.invokestatic 97, 3) := by decide +kernel
theorem dX4_setScreen_18 : decode cX4_setScreen 18 = .ok (.ifCond .eq 23, 3) := by decide +kernel
theorem dX4_setScreen_21 : decode cX4_setScreen 21 = .ok (.iload 4, 2) := by decide +kernel
theorem dX4_setScreen_23 : decode cX4_setScreen 23 = .ok (.invokestatic 97, 3) := by decide +kernel
theorem dX4_setScreen_26 : decode cX4_setScreen 26 = .ok (.ifCond .eq 15, 3) := by decide +kernel
theorem dX4_setScreen_29 : decode cX4_setScreen 29 = .ok (.iload 5, 2) := by decide +kernel
theorem dX4_setScreen_31 : decode cX4_setScreen 31 = .ok (.invokestatic 97, 3) := by decide +kernel
theorem dX4_setScreen_34 : decode cX4_setScreen 34 = .ok (.ifCond .eq 7, 3) := by decide +kernel
theorem dX4_setScreen_37 : decode cX4_setScreen 37 = .ok (.iconst 1, 1) := by decide +kernel
theorem dX4_setScreen_38 : decode cX4_setScreen 38 = .ok (.goto 4, 3) := by decide +kernel
theorem dX4_setScreen_41 : decode cX4_setScreen 41 = .ok (.iconst 0, 1) := by decide +kernel
theorem dX4_setScreen_42 : decode cX4_setScreen 42 = .ok (.invokestatic 37, 3) := by decide +kernel
theorem dX4_setScreen_45 : decode cX4_setScreen 45 = .ok (.iload 6, 2) := by decide +kernel
theorem dX4_setScreen_47 : decode cX4_setScreen 47 = .ok (.ifCond .lt 13, 3) := by decide +kernel
theorem dX4_setScreen_50 : decode cX4_setScreen 50 = .ok (.iload 6, 2) := by decide +kernel
theorem dX4_setScreen_52 : decode cX4_setScreen 52 = .ok (.iconst 4, 1) := by decide +kernel
theorem dX4_setScreen_53 : decode cX4_setScreen 53 = .ok (.if_icmp .gt 7, 3) := by decide +kernel
theorem dX4_setScreen_56 : decode cX4_setScreen 56 = .ok (.iconst 1, 1) := by decide +kernel
theorem dX4_setScreen_57 : decode cX4_setScreen 57 = .ok (.goto 4, 3) := by decide +kernel
theorem dX4_setScreen_60 : decode cX4_setScreen 60 = .ok (.iconst 0, 1) := by decide +kernel
theorem dX4_setScreen_61 : decode cX4_setScreen 61 = .ok (.invokestatic 37, 3) := by decide +kernel
theorem dX4_setScreen_64 : decode cX4_setScreen 64 = .ok (.iload_n 2, 1) := by decide +kernel
theorem dX4_setScreen_65 : decode cX4_setScreen 65 = .ok (.iload_n 3, 1) := by decide +kernel
theorem dX4_setScreen_66 : decode cX4_setScreen 66 = .ok (.iload 4, 2) := by decide +kernel
theorem dX4_setScreen_68 : decode cX4_setScreen 68 = .ok (.iload 5, 2) := by decide +kernel
theorem dX4_setScreen_70 : decode cX4_setScreen 70 = .ok (.invokestatic 72, 3) := by decide +kernel
theorem dX4_setScreen_73 : decode cX4_setScreen 73 = .ok (.invokestatic 76, 3) := by decide +kernel
theorem dX4_setScreen_76 : decode cX4_setScreen 76 = .ok (.invokestatic 37, 3) := by decide +kernel
theorem dX4_setScreen_79 : decode cX4_setScreen 79 = .ok (.aload 7, 2) := by decide +kernel
theorem dX4_setScreen_81 : decode cX4_setScreen 81 = .ok (.iload_n 2, 1) := by decide +kernel
theorem dX4_setScreen_82 : decode cX4_setScreen 82 = .ok (.iload_n 3, 1) := by decide +kernel
theorem dX4_setScreen_83 : decode cX4_setScreen 83 = .ok (.iload 4, 2) := by decide +kernel
theorem dX4_setScreen_85 : decode cX4_setScreen 85 = .ok (.iload 5, 2) := by decide +kernel
theorem dX4_setScreen_87 : decode cX4_setScreen 87 = .ok (.iload 6, 2) := by decide +kernel
theorem dX4_setScreen_89 : decode cX4_setScreen 89 = .ok (.iconst 0, 1) := by decide +kernel
theorem dX4_setScreen_90 : decode cX4_setScreen 90 = .ok (.invokevirtual 87, 3) := by decide +kernel
theorem dX4_setScreen_93 : decode cX4_setScreen 93 = .ok (.aload 7, 2) := by decide +kernel
theorem dX4_setScreen_95 : decode cX4_setScreen 95 = .ok (.invokevirtual 91, 3) := by decide +kernel
theorem dX4_setScreen_98 : decode cX4_setScreen 98 = .ok (.pop, 1) := by decide +kernel
theorem dX4_setScreen_99 : decode cX4_setScreen 99 = .ok (.aload 7, 2) := by decide +kernel
theorem dX4_setScreen_101 : decode cX4_setScreen 101 = .ok (.invokevirtual 94, 3) := by decide +kernel
theorem dX4_setScreen_104 : decode cX4_setScreen 104 = .ok (.ireturn, 1) := by decide +kernel
set_option maxRecDepth 20000 in
theorem ggX4_remove_X4_inSlot : GoodIn wsX4_remove wsX4_inSlot := goodIn_ca (goodIn_r _ [6, 7, 8, 9, 56, 57, 58, 59, 60] (by decide +kernel) (by decide +kernel)) (goodIn_sub (fun _ h => List.mem_cons_of_mem _ (List.mem_append_left _ (List.mem_append_left _ (List.mem_append_right _ h)))) (by decide +kernel))
set_option maxRecDepth 20000 in
theorem gX4_remove_X4_inSlot : GoodIn wsX4_remove (wsV RX4 56 RX4 yX4_inSlot wsX4_inSlot) := goodIn_app (goodIn_of _ (by decide +kernel)) ggX4_remove_X4_inSlot
set_option maxRecDepth 20000 in
theorem ggX4_remove_X4_needState : GoodIn wsX4_remove wsX4_needState := goodIn_ca (goodIn_r _ [12, 13, 14] (by decide +kernel) (by decide +kernel)) (goodIn_sub (fun _ h => List.mem_cons_of_mem _ (List.mem_append_left _ (List.mem_append_right _ h))) (by decide +kernel))
set_option maxRecDepth 20000 in
theorem gX4_remove_X4_needState : GoodIn wsX4_remove (va_wsS RX4 45 yX4_needState wsX4_needState) := goodIn_app (goodIn_of _ (by decide +kernel)) ggX4_remove_X4_needState
set_option maxRecDepth 20000 in
theorem ggX4_remove_X4_count : GoodIn wsX4_remove wsX4_count := goodIn_ca (goodIn_r _ [18, 19, 20, 21, 9, 1, 22, 23, 24, 5, 25, 26, 27, 28, 29, 30, 31, 32, 33, 34, 35, 36, 37, 38, 39, 40, 56, 57, 58, 59, 60, 61, 62, 63, 64, 65, 66, 67, 68, 41, 42, 43, 44, 45, 46, 47, 48, 49, 50, 51, 52, 53, 54, 55, 69, 70, 71] (by decide +kernel) (by decide +kernel)) (goodIn_sub (fun _ h => List.mem_cons_of_mem _ (List.mem_append_right _ h)) (by decide +kernel))
set_option maxRecDepth 20000 in
theorem gX4_remove_X4_count : GoodIn wsX4_remove (wsV RX4 103 RX4 yX4_count wsX4_count) := goodIn_app (goodIn_of _ (by decide +kernel)) ggX4_remove_X4_count
theorem dX4_remove_0 : decode cX4_remove 0 = .ok (.aload_n 0, 1) := by decide +kernel
theorem dX4_remove_1 : decode cX4_remove 1 = .ok (.iload_n 1, 1) := by decide +kernel
theorem dX4_remove_2 : decode cX4_remove 2 = .ok (.invokevirtual 56, 3) := by decide +kernel
theorem dX4_remove_5 : decode cX4_remove 5 = .ok (.astore_n 2, 1) := by decide +kernel
theorem dX4_remove_6 : decode cX4_remove 6 = .ok (.aload_n 2, 1) := by decide +kernel
theorem dX4_remove_7 : decode cX4_remove 7 = .ok (.getfield 100, 3) := by decide +kernel
theorem dX4_remove_10 : decode cX4_remove 10 = .ok (.invokestatic 45, 3) := by decide +kernel
theorem dX4_remove_13 : decode cX4_remove 13 = .ok (.aload_n 2, 1) := by decide +kernel
theorem dX4_remove_14 : decode cX4_remove 14 = .ok (.iconst 0, 1) := by decide +kernel
theorem dX4_remove_15 : decode cX4_remove 15 = .ok (.putfield 100, 3) := by decide +kernel
theorem dX4_remove_18 : decode cX4_remove 18 = .ok (.aload_n 0, 1) := by decide +kernel
theorem dX4_remove_19 : decode cX4_remove 19 = .ok (.iconst 0, 1) := by decide +kernel
theorem dX4_remove_20 : decode cX4_remove 20 = .ok (.invokevirtual 103, 3) := by decide +kernel
theorem dX4_remove_23 : decode cX4_remove 23 = .ok (.ireturn, 1) := by decide +kernel
set_option maxRecDepth 20000 in
theorem ggX4_setCenter_X4_inSlot : GoodIn wsX4_setCenter wsX4_inSlot := goodIn_ca (goodIn_r _ [7, 8, 9, 10, 134, 135, 136, 137, 138] (by decide +kernel) (by decide +kernel)) (goodIn_sub (fun _ h => List.mem_cons_of_mem _ (List.mem_append_left _ (List.mem_append_right _ h))) (by decide +kernel))
set_option maxRecDepth 20000 in
theorem gX4_setCenter_X4_inSlot : GoodIn wsX4_setCenter (wsV RX4 56 RX4 yX4_inSlot wsX4_inSlot) := goodIn_app (goodIn_of _ (by decide +kernel)) ggX4_setCenter_X4_inSlot
set_option maxRecDepth 20000 in
theorem ggX4_setCenter_X4_needState : GoodIn wsX4_setCenter wsX4_needState := goodIn_ca (goodIn_r _ [13, 14, 15] (by decide +kernel) (by decide +kernel)) (goodIn_sub (fun _ h => List.mem_cons_of_mem _ (List.mem_append_right _ h)) (by decide +kernel))
set_option maxRecDepth 20000 in
theorem gX4_setCenter_X4_needState : GoodIn wsX4_setCenter (va_wsS RX4 45 yX4_needState wsX4_needState) := goodIn_app (goodIn_of _ (by decide +kernel)) ggX4_setCenter_X4_needState
set_option maxRecDepth 20000 in
theorem ggX4_setCenter_X3_regrow : GoodIn wsX4_setCenter wsX3_regrow := goodIn_r _ [20, 21, 22, 23, 24, 25, 26, 27, 28, 29, 30, 31, 32, 33, 34, 35, 36, 37, 38, 39, 40, 41, 42, 43, 44, 6, 45, 46, 47, 48, 49, 50, 51, 52, 53, 54, 55, 56, 57, 19, 58, 59, 60, 61, 62, 63, 64, 65, 66, 67, 68, 69, 70, 71, 72, 73, 74, 75, 76, 77, 78, 79, 80, 81, 82, 83, 84, 85, 86, 87, 88, 89, 90, 91, 92, 93, 94, 95, 96, 97, 98, 99, 100, 101, 102, 103, 104, 105, 106, 107, 108, 109, 110, 111, 112, 113, 114, 115, 116, 117, 118, 119, 120, 121, 122, 123, 124, 125, 126, 127, 128, 129, 130, 131, 132, 133, 139, 140, 141] (by decide +kernel) (by decide +kernel)
set_option maxRecDepth 20000 in
theorem gX4_setCenter_X3_regrow : GoodIn wsX4_setCenter (wsV RX4 91 RX3 yX3_regrow wsX3_regrow) := goodIn_app (goodIn_of _ (by decide +kernel)) ggX4_setCenter_X3_regrow
theorem dX4_setCenter_0 : decode cX4_setCenter 0 = .ok (.aload_n 0, 1) := by decide +kernel
theorem dX4_setCenter_1 : decode cX4_setCenter 1 = .ok (.iload_n 1, 1) := by decide +kernel
theorem dX4_setCenter_2 : decode cX4_setCenter 2 = .ok (.invokevirtual 56, 3) := by decide +kernel
theorem dX4_setCenter_5 : decode cX4_setCenter 5 = .ok (.astore_n 3, 1) := by decide +kernel
theorem dX4_setCenter_6 : decode cX4_setCenter 6 = .ok (.aload_n 3, 1) := by decide +kernel
theorem dX4_setCenter_7 : decode cX4_setCenter 7 = .ok (.getfield 100, 3) := by decide +kernel
theorem dX4_setCenter_10 : decode cX4_setCenter 10 = .ok (.invokestatic 45, 3) := by decide +kernel
theorem dX4_setCenter_13 : decode cX4_setCenter 13 = .ok (.aload_n 3, 1) := by decide +kernel
theorem dX4_setCenter_14 : decode cX4_setCenter 14 = .ok (.iload_n 2, 1) := by decide +kernel
theorem dX4_setCenter_15 : decode cX4_setCenter 15 = .ok (.putfield 106, 3) := by decide +kernel
theorem dX4_setCenter_18 : decode cX4_setCenter 18 = .ok (.aload_n 3, 1) := by decide +kernel
theorem dX4_setCenter_19 : decode cX4_setCenter 19 = .ok (.invokevirtual 91, 3) := by decide +kernel
theorem dX4_setCenter_22 : decode cX4_setCenter 22 = .ok (.ireturn, 1) := by decide +kernel
set_option maxRecDepth 20000 in
theorem ggX4_turn_X4_inSlot : GoodIn wsX4_turn wsX4_inSlot := goodIn_ca (goodIn_r _ [6, 7, 8, 9, 142, 143, 144, 145, 146] (by decide +kernel) (by decide +kernel)) (goodIn_sub (fun _ h => List.mem_cons_of_mem _ (List.mem_append_left _ (List.mem_append_left _ (List.mem_append_right _ h)))) (by decide +kernel))
set_option maxRecDepth 20000 in
theorem gX4_turn_X4_inSlot : GoodIn wsX4_turn (wsV RX4 56 RX4 yX4_inSlot wsX4_inSlot) := goodIn_app (goodIn_of _ (by decide +kernel)) ggX4_turn_X4_inSlot
set_option maxRecDepth 20000 in
theorem ggX4_turn_X4_needArgument : GoodIn wsX4_turn wsX4_needArgument := goodIn_ca (goodIn_r _ [12, 13, 14] (by decide +kernel) (by decide +kernel)) (goodIn_sub (fun _ h => List.mem_cons_of_mem _ (List.mem_append_left _ (List.mem_append_right _ h))) (by decide +kernel))
set_option maxRecDepth 20000 in
theorem gX4_turn_X4_needArgument : GoodIn wsX4_turn (va_wsS RX4 37 yX4_needArgument wsX4_needArgument) := goodIn_app (goodIn_of _ (by decide +kernel)) ggX4_turn_X4_needArgument
set_option maxRecDepth 20000 in
theorem ggX4_turn_X4_needState : GoodIn wsX4_turn wsX4_needState := goodIn_ca (goodIn_r _ [17, 18, 19] (by decide +kernel) (by decide +kernel)) (goodIn_sub (fun _ h => List.mem_cons_of_mem _ (List.mem_append_right _ h)) (by decide +kernel))
set_option maxRecDepth 20000 in
theorem gX4_turn_X4_needState : GoodIn wsX4_turn (va_wsS RX4 45 yX4_needState wsX4_needState) := goodIn_app (goodIn_of _ (by decide +kernel)) ggX4_turn_X4_needState
set_option maxRecDepth 20000 in
theorem ggX4_turn_X3_turnVectors : GoodIn wsX4_turn wsX3_turnVectors := goodIn_r _ [24, 25, 26, 27, 28, 127, 128, 129, 130, 131, 132, 133, 134, 135, 136, 137, 138, 139, 140, 141] (by decide +kernel) (by decide +kernel)
set_option maxRecDepth 20000 in
theorem gX4_turn_X3_turnVectors : GoodIn wsX4_turn (wsV RX4 107 RX3 yX3_turnVectors wsX3_turnVectors) := goodIn_app (goodIn_of _ (by decide +kernel)) ggX4_turn_X3_turnVectors
set_option maxRecDepth 20000 in
theorem ggX4_turn_X3_regrow : GoodIn wsX4_turn wsX3_regrow := goodIn_r _ [32, 33, 34, 35, 36, 37, 38, 39, 25, 27, 26, 28, 40, 41, 42, 43, 44, 45, 46, 47, 48, 49, 50, 51, 52, 5, 53, 54, 55, 56, 57, 58, 59, 60, 61, 62, 63, 64, 65, 23, 66, 67, 68, 69, 70, 71, 72, 73, 74, 75, 76, 77, 78, 79, 80, 81, 82, 83, 84, 85, 86, 87, 88, 89, 90, 91, 92, 93, 94, 95, 96, 97, 98, 99, 100, 101, 102, 103, 104, 105, 106, 107, 108, 109, 110, 111, 112, 113, 114, 115, 116, 117, 118, 119, 120, 121, 122, 123, 124, 125, 126, 127, 128, 129, 130, 131, 132, 133, 134, 135, 136, 137, 138, 139, 140, 141, 147, 148, 149] (by decide +kernel) (by decide +kernel)
set_option maxRecDepth 20000 in
theorem gX4_turn_X3_regrow : GoodIn wsX4_turn (wsV RX4 91 RX3 yX3_regrow wsX3_regrow) := goodIn_app (goodIn_of _ (by decide +kernel)) ggX4_turn_X3_regrow
theorem dX4_turn_0 : decode cX4_turn 0 = .ok (.aload_n 0, 1) := by decide +kernel
theorem dX4_turn_1 : decode cX4_turn 1 = .ok (.iload_n 1, 1) := by decide +kernel
theorem dX4_turn_2 : decode cX4_turn 2 = .ok (.invokevirtual 56, 3) := by decide +kernel
theorem dX4_turn_5 : decode cX4_turn 5 = .ok (.astore_n 3, 1) := by decide +kernel
theorem dX4_turn_6 : decode cX4_turn 6 = .ok (.iload_n 2, 1) := by decide +kernel
theorem dX4_turn_7 : decode cX4_turn 7 = .ok (.ifCond .lt 12, 3) := by decide +kernel
theorem dX4_turn_10 : decode cX4_turn 10 = .ok (.iload_n 2, 1) := by decide +kernel
theorem dX4_turn_11 : decode cX4_turn 11 = .ok (.iconst 2, 1) := by decide +kernel
theorem dX4_turn_12 : decode cX4_turn 12 = .ok (.if_icmp .gt 7, 3) := by decide +kernel
theorem dX4_turn_15 : decode cX4_turn 15 = .ok (.iconst 1, 1) := by decide +kernel
theorem dX4_turn_16 : decode cX4_turn 16 = .ok (.goto 4, 3) := by decide +kernel
theorem dX4_turn_19 : decode cX4_turn 19 = .ok (.iconst 0, 1) := by decide +kernel
theorem dX4_turn_20 : decode cX4_turn 20 = .ok (.invokestatic 37, 3) := by decide +kernel
theorem dX4_turn_23 : decode cX4_turn 23 = .ok (.aload_n 3, 1) := by decide +kernel
theorem dX4_turn_24 : decode cX4_turn 24 = .ok (.getfield 100, 3) := by decide +kernel
theorem dX4_turn_27 : decode cX4_turn 27 = .ok (.invokestatic 45, 3) := by decide +kernel
theorem dX4_turn_30 : decode cX4_turn 30 = .ok (.aload_n 3, 1) := by decide +kernel
theorem dX4_turn_31 : decode cX4_turn 31 = .ok (.iload_n 2, 1) := by decide +kernel
theorem dX4_turn_32 : decode cX4_turn 32 = .ok (.invokevirtual 107, 3) := by decide +kernel
theorem dX4_turn_35 : decode cX4_turn 35 = .ok (.aload_n 3, 1) := by decide +kernel
theorem dX4_turn_36 : decode cX4_turn 36 = .ok (.invokevirtual 91, 3) := by decide +kernel
theorem dX4_turn_39 : decode cX4_turn 39 = .ok (.ireturn, 1) := by decide +kernel
set_option maxRecDepth 20000 in
theorem ggX4_shorten_X4_inSlot : GoodIn wsX4_shorten wsX4_inSlot := goodIn_ca (goodIn_r _ [6, 7, 8, 9, 144, 145, 146, 147, 148] (by decide +kernel) (by decide +kernel)) (goodIn_sub (fun _ h => List.mem_cons_of_mem _ (List.mem_append_left _ (List.mem_append_right _ h))) (by decide +kernel))
set_option maxRecDepth 20000 in
theorem gX4_shorten_X4_inSlot : GoodIn wsX4_shorten (wsV RX4 56 RX4 yX4_inSlot wsX4_inSlot) := goodIn_app (goodIn_of _ (by decide +kernel)) ggX4_shorten_X4_inSlot
set_option maxRecDepth 20000 in
theorem ggX4_shorten_X4_needState : GoodIn wsX4_shorten wsX4_needState := goodIn_ca (goodIn_r _ [12, 13, 14] (by decide +kernel) (by decide +kernel)) (goodIn_sub (fun _ h => List.mem_cons_of_mem _ (List.mem_append_right _ h)) (by decide +kernel))
set_option maxRecDepth 20000 in
theorem gX4_shorten_X4_needState : GoodIn wsX4_shorten (va_wsS RX4 45 yX4_needState wsX4_needState) := goodIn_app (goodIn_of _ (by decide +kernel)) ggX4_shorten_X4_needState
set_option maxRecDepth 20000 in
theorem ggX4_shorten_X3_shortenVectors : GoodIn wsX4_shorten wsX3_shortenVectors := goodIn_r _ [19, 20, 21, 22, 23, 24, 25, 26, 18, 27, 28, 29, 30, 31, 32, 33, 34, 35, 5, 36, 129, 130, 131, 132, 133, 134, 135, 136, 137, 138, 139, 140, 141, 142, 143] (by decide +kernel) (by decide +kernel)
set_option maxRecDepth 20000 in
theorem gX4_shorten_X3_shortenVectors : GoodIn wsX4_shorten (wsV RX4 111 RX3 yX3_shortenVectors wsX3_shortenVectors) := goodIn_app (goodIn_of _ (by decide +kernel)) ggX4_shorten_X3_shortenVectors
set_option maxRecDepth 20000 in
theorem ggX4_shorten_X3_regrow : GoodIn wsX4_shorten wsX3_regrow := goodIn_r _ [40, 41, 42, 43, 44, 45, 46, 47, 22, 23, 20, 21, 48, 49, 50, 51, 52, 53, 54, 32, 33, 34, 55, 56, 35, 5, 36, 57, 58, 59, 60, 61, 62, 63, 64, 65, 66, 67, 68, 18, 69, 70, 71, 72, 73, 74, 75, 76, 77, 78, 79, 80, 81, 82, 83, 84, 85, 86, 87, 88, 89, 90, 91, 92, 93, 94, 95, 96, 97, 98, 99, 100, 101, 102, 103, 104, 105, 106, 107, 108, 109, 110, 111, 112, 31, 113, 114, 115, 116, 117, 118, 119, 120, 121, 122, 123, 124, 125, 126, 127, 128, 129, 130, 131, 132, 133, 134, 135, 136, 137, 138, 139, 140, 141, 142, 143, 149, 150, 151] (by decide +kernel) (by decide +kernel)
set_option maxRecDepth 20000 in
theorem gX4_shorten_X3_regrow : GoodIn wsX4_shorten (wsV RX4 91 RX3 yX3_regrow wsX3_regrow) := goodIn_app (goodIn_of _ (by decide +kernel)) ggX4_shorten_X3_regrow
theorem dX4_shorten_0 : decode cX4_shorten 0 = .ok (.aload_n 0, 1) := by decide +kernel
theorem dX4_shorten_1 : decode cX4_shorten 1 = .ok (.iload_n 1, 1) := by decide +kernel
theorem dX4_shorten_2 : decode cX4_shorten 2 = .ok (.invokevirtual 56, 3) := by decide +kernel
theorem dX4_shorten_5 : decode cX4_shorten 5 = .ok (.astore_n 2, 1) := by decide +kernel
theorem dX4_shorten_6 : decode cX4_shorten 6 = .ok (.aload_n 2, 1) := by decide +kernel
theorem dX4_shorten_7 : decode cX4_shorten 7 = .ok (.getfield 100, 3) := by decide +kernel
theorem dX4_shorten_10 : decode cX4_shorten 10 = .ok (.invokestatic 45, 3) := by decide +kernel
theorem dX4_shorten_13 : decode cX4_shorten 13 = .ok (.aload_n 2, 1) := by decide +kernel
theorem dX4_shorten_14 : decode cX4_shorten 14 = .ok (.invokevirtual 111, 3) := by decide +kernel
theorem dX4_shorten_17 : decode cX4_shorten 17 = .ok (.istore_n 3, 1) := by decide +kernel
theorem dX4_shorten_18 : decode cX4_shorten 18 = .ok (.aload_n 2, 1) := by decide +kernel
theorem dX4_shorten_19 : decode cX4_shorten 19 = .ok (.invokevirtual 91, 3) := by decide +kernel
theorem dX4_shorten_22 : decode cX4_shorten 22 = .ok (.pop, 1) := by decide +kernel
theorem dX4_shorten_23 : decode cX4_shorten 23 = .ok (.iload_n 3, 1) := by decide +kernel
theorem dX4_shorten_24 : decode cX4_shorten 24 = .ok (.ireturn, 1) := by decide +kernel
set_option maxRecDepth 20000 in
theorem ggX4_setTint_X4_inSlotWithSteps : GoodIn wsX4_setTint wsX4_inSlotWithSteps := goodIn_ca (goodIn_ca (goodIn_ca (goodIn_r _ [6, 7, 8, 9, 10, 5, 11, 12, 13, 14, 15, 16, 17, 18, 19, 20, 21, 22, 23, 24, 25, 26, 27, 28, 29, 30, 31, 32, 33, 34, 35, 36, 37, 38, 39, 40, 41, 42, 43, 44, 45, 46, 47, 48, 49, 50, 51, 52, 53, 54, 55, 56, 57, 58, 59, 60] (by decide +kernel) (by decide +kernel)) (goodIn_sub (fun _ h => List.mem_cons_of_mem _ (List.mem_append_left _ (List.mem_append_left _ (List.mem_append_right _ h)))) (by decide +kernel))) (goodIn_sub (fun _ h => List.mem_cons_of_mem _ (List.mem_append_left _ (List.mem_append_right _ h))) (by decide +kernel))) (goodIn_sub (fun _ h => List.mem_cons_of_mem _ (List.mem_append_right _ h)) (by decide +kernel))
set_option maxRecDepth 20000 in
theorem gX4_setTint_X4_inSlotWithSteps : GoodIn wsX4_setTint (wsV RX4 114 RX4 yX4_inSlotWithSteps wsX4_inSlotWithSteps) := goodIn_app (goodIn_of _ (by decide +kernel)) ggX4_setTint_X4_inSlotWithSteps
theorem dX4_setTint_0 : decode cX4_setTint 0 = .ok (.aload_n 0, 1) := by decide +kernel
theorem dX4_setTint_1 : decode cX4_setTint 1 = .ok (.iload_n 1, 1) := by decide +kernel
theorem dX4_setTint_2 : decode cX4_setTint 2 = .ok (.iload_n 2, 1) := by decide +kernel
theorem dX4_setTint_3 : decode cX4_setTint 3 = .ok (.invokevirtual 114, 3) := by decide +kernel
theorem dX4_setTint_6 : decode cX4_setTint 6 = .ok (.astore_n 3, 1) := by decide +kernel
theorem dX4_setTint_7 : decode cX4_setTint 7 = .ok (.aload_n 3, 1) := by decide +kernel
theorem dX4_setTint_8 : decode cX4_setTint 8 = .ok (.getfield 118, 3) := by decide +kernel
theorem dX4_setTint_11 : decode cX4_setTint 11 = .ok (.istore 4, 2) := by decide +kernel
theorem dX4_setTint_13 : decode cX4_setTint 13 = .ok (.aload_n 3, 1) := by decide +kernel
theorem dX4_setTint_14 : decode cX4_setTint 14 = .ok (.iload_n 2, 1) := by decide +kernel
theorem dX4_setTint_15 : decode cX4_setTint 15 = .ok (.putfield 118, 3) := by decide +kernel
theorem dX4_setTint_18 : decode cX4_setTint 18 = .ok (.iload 4, 2) := by decide +kernel
theorem dX4_setTint_20 : decode cX4_setTint 20 = .ok (.ireturn, 1) := by decide +kernel
set_option maxRecDepth 20000 in
theorem ggX4_setGain_X4_needArgument : GoodIn wsX4_setGain wsX4_needArgument := goodIn_ca (goodIn_r _ [5, 6, 7] (by decide +kernel) (by decide +kernel)) (goodIn_sub (fun _ h => List.mem_cons_of_mem _ (List.mem_append_right _ h)) (by decide +kernel))
set_option maxRecDepth 20000 in
theorem gX4_setGain_X4_needArgument : GoodIn wsX4_setGain (va_wsS RX4 37 yX4_needArgument wsX4_needArgument) := goodIn_app (goodIn_of _ (by decide +kernel)) ggX4_setGain_X4_needArgument
theorem dX4_setGain_0 : decode cX4_setGain 0 = .ok (.iload_n 1, 1) := by decide +kernel
theorem dX4_setGain_1 : decode cX4_setGain 1 = .ok (.ifCond .lt 13, 3) := by decide +kernel
theorem dX4_setGain_4 : decode cX4_setGain 4 = .ok (.iload_n 1, 1) := by decide +kernel
theorem dX4_setGain_5 : decode cX4_setGain 5 = .ok (.bipush 100, 2) := by decide +kernel
theorem dX4_setGain_7 : decode cX4_setGain 7 = .ok (.if_icmp .gt 7, 3) := by decide +kernel
theorem dX4_setGain_10 : decode cX4_setGain 10 = .ok (.iconst 1, 1) := by decide +kernel
theorem dX4_setGain_11 : decode cX4_setGain 11 = .ok (.goto 4, 3) := by decide +kernel
theorem dX4_setGain_14 : decode cX4_setGain 14 = .ok (.iconst 0, 1) := by decide +kernel
theorem dX4_setGain_15 : decode cX4_setGain 15 = .ok (.invokestatic 37, 3) := by decide +kernel
theorem dX4_setGain_18 : decode cX4_setGain 18 = .ok (.aload_n 0, 1) := by decide +kernel
theorem dX4_setGain_19 : decode cX4_setGain 19 = .ok (.getfield 121, 3) := by decide +kernel
theorem dX4_setGain_22 : decode cX4_setGain 22 = .ok (.istore_n 2, 1) := by decide +kernel
theorem dX4_setGain_23 : decode cX4_setGain 23 = .ok (.aload_n 0, 1) := by decide +kernel
theorem dX4_setGain_24 : decode cX4_setGain 24 = .ok (.iload_n 1, 1) := by decide +kernel
theorem dX4_setGain_25 : decode cX4_setGain 25 = .ok (.putfield 121, 3) := by decide +kernel
theorem dX4_setGain_28 : decode cX4_setGain 28 = .ok (.iload_n 2, 1) := by decide +kernel
theorem dX4_setGain_29 : decode cX4_setGain 29 = .ok (.ireturn, 1) := by decide +kernel
set_option maxRecDepth 20000 in
theorem ggX4_screen_X4_inSlot : GoodIn wsX4_screen wsX4_inSlot := goodIn_ca (goodIn_r _ [6, 7, 8, 9, 60, 61, 62, 63, 64] (by decide +kernel) (by decide +kernel)) (goodIn_sub (fun _ h => List.mem_cons_of_mem _ (List.mem_append_left _ (List.mem_append_left _ (List.mem_append_right _ h)))) (by decide +kernel))
set_option maxRecDepth 20000 in
theorem gX4_screen_X4_inSlot : GoodIn wsX4_screen (wsV RX4 56 RX4 yX4_inSlot wsX4_inSlot) := goodIn_app (goodIn_of _ (by decide +kernel)) ggX4_screen_X4_inSlot
set_option maxRecDepth 20000 in
theorem ggX4_screen_X4_needArgument : GoodIn wsX4_screen wsX4_needArgument := goodIn_ca (goodIn_r _ [12, 13, 14] (by decide +kernel) (by decide +kernel)) (goodIn_sub (fun _ h => List.mem_cons_of_mem _ (List.mem_append_left _ (List.mem_append_right _ h))) (by decide +kernel))
set_option maxRecDepth 20000 in
theorem gX4_screen_X4_needArgument : GoodIn wsX4_screen (va_wsS RX4 37 yX4_needArgument wsX4_needArgument) := goodIn_app (goodIn_of _ (by decide +kernel)) ggX4_screen_X4_needArgument
set_option maxRecDepth 20000 in
theorem ggX4_screen_X4_needState : GoodIn wsX4_screen wsX4_needState := goodIn_ca (goodIn_r _ [17, 18, 19] (by decide +kernel) (by decide +kernel)) (goodIn_sub (fun _ h => List.mem_cons_of_mem _ (List.mem_append_right _ h)) (by decide +kernel))
set_option maxRecDepth 20000 in
theorem gX4_screen_X4_needState : GoodIn wsX4_screen (va_wsS RX4 45 yX4_needState wsX4_needState) := goodIn_app (goodIn_of _ (by decide +kernel)) ggX4_screen_X4_needState
set_option maxRecDepth 20000 in
theorem ggX4_screen_X3_property : GoodIn wsX4_screen wsX3_property := goodIn_r _ [24, 25, 26, 27, 28, 29, 30, 31, 32, 33, 34, 35, 36, 37, 38, 39, 40, 41, 42, 43, 44, 45, 46, 47, 48, 49, 50, 51, 52, 53, 54, 55, 56, 57, 58, 59, 65, 66, 67] (by decide +kernel) (by decide +kernel)
set_option maxRecDepth 20000 in
theorem gX4_screen_X3_property : GoodIn wsX4_screen (wsV RX4 124 RX3 yX3_property wsX3_property) := goodIn_app (goodIn_of _ (by decide +kernel)) ggX4_screen_X3_property
theorem dX4_screen_0 : decode cX4_screen 0 = .ok (.aload_n 0, 1) := by decide +kernel
theorem dX4_screen_1 : decode cX4_screen 1 = .ok (.iload_n 1, 1) := by decide +kernel
theorem dX4_screen_2 : decode cX4_screen 2 = .ok (.invokevirtual 56, 3) := by decide +kernel
theorem dX4_screen_5 : decode cX4_screen 5 = .ok (.astore_n 3, 1) := by decide +kernel
theorem dX4_screen_6 : decode cX4_screen 6 = .ok (.iload_n 2, 1) := by decide +kernel
theorem dX4_screen_7 : decode cX4_screen 7 = .ok (.ifCond .lt 13, 3) := by decide +kernel
theorem dX4_screen_10 : decode cX4_screen 10 = .ok (.iload_n 2, 1) := by decide +kernel
theorem dX4_screen_11 : decode cX4_screen 11 = .ok (.bipush 10, 2) := by decide +kernel
theorem dX4_screen_13 : decode cX4_screen 13 = .ok (.if_icmp .gt 7, 3) := by decide +kernel
theorem dX4_screen_16 : decode cX4_screen 16 = .ok (.iconst 1, 1) := by decide +kernel
theorem dX4_screen_17 : decode cX4_screen 17 = .ok (.goto 4, 3) := by decide +kernel
theorem dX4_screen_20 : decode cX4_screen 20 = .ok (.iconst 0, 1) := by decide +kernel
theorem dX4_screen_21 : decode cX4_screen 21 = .ok (.invokestatic 37, 3) := by decide +kernel
theorem dX4_screen_24 : decode cX4_screen 24 = .ok (.aload_n 3, 1) := by decide +kernel
theorem dX4_screen_25 : decode cX4_screen 25 = .ok (.getfield 100, 3) := by decide +kernel
theorem dX4_screen_28 : decode cX4_screen 28 = .ok (.invokestatic 45, 3) := by decide +kernel
theorem dX4_screen_31 : decode cX4_screen 31 = .ok (.aload_n 3, 1) := by decide +kernel
theorem dX4_screen_32 : decode cX4_screen 32 = .ok (.iload_n 2, 1) := by decide +kernel
theorem dX4_screen_33 : decode cX4_screen 33 = .ok (.invokevirtual 124, 3) := by decide +kernel
theorem dX4_screen_36 : decode cX4_screen 36 = .ok (.ireturn, 1) := by decide +kernel
set_option maxRecDepth 20000 in
theorem ggX4_place_X4_inSlot : GoodIn wsX4_place wsX4_inSlot := goodIn_ca (goodIn_r _ [7, 8, 9, 10, 58, 59, 60, 61, 62] (by decide +kernel) (by decide +kernel)) (goodIn_sub (fun _ h => List.mem_cons_of_mem _ (List.mem_append_left _ (List.mem_append_left _ (List.mem_append_right _ h)))) (by decide +kernel))
set_option maxRecDepth 20000 in
theorem gX4_place_X4_inSlot : GoodIn wsX4_place (wsV RX4 56 RX4 yX4_inSlot wsX4_inSlot) := goodIn_app (goodIn_of _ (by decide +kernel)) ggX4_place_X4_inSlot
set_option maxRecDepth 20000 in
theorem ggX4_place_X4_isPosition : GoodIn wsX4_place wsX4_isPosition := goodIn_r _ [13] (by decide +kernel) (by decide +kernel)
set_option maxRecDepth 20000 in
theorem gX4_place_X4_isPosition : GoodIn wsX4_place (va_wsS RX4 127 yX4_isPosition wsX4_isPosition) := goodIn_app (goodIn_of _ (by decide +kernel)) ggX4_place_X4_isPosition
set_option maxRecDepth 20000 in
theorem ggX4_place_X4_needArgument : GoodIn wsX4_place wsX4_needArgument := goodIn_ca (goodIn_r _ [16, 17, 18] (by decide +kernel) (by decide +kernel)) (goodIn_sub (fun _ h => List.mem_cons_of_mem _ (List.mem_append_left _ (List.mem_append_right _ h))) (by decide +kernel))
set_option maxRecDepth 20000 in
theorem gX4_place_X4_needArgument : GoodIn wsX4_place (va_wsS RX4 37 yX4_needArgument wsX4_needArgument) := goodIn_app (goodIn_of _ (by decide +kernel)) ggX4_place_X4_needArgument
set_option maxRecDepth 20000 in
theorem ggX4_place_X4_needState : GoodIn wsX4_place wsX4_needState := goodIn_ca (goodIn_r _ [21, 22, 23] (by decide +kernel) (by decide +kernel)) (goodIn_sub (fun _ h => List.mem_cons_of_mem _ (List.mem_append_right _ h)) (by decide +kernel))
set_option maxRecDepth 20000 in
theorem gX4_place_X4_needState : GoodIn wsX4_place (va_wsS RX4 45 yX4_needState wsX4_needState) := goodIn_app (goodIn_of _ (by decide +kernel)) ggX4_place_X4_needState
set_option maxRecDepth 20000 in
theorem ggX4_place_X2_numberOf : GoodIn wsX4_place wsX2_numberOf := goodIn_r _ [28, 29, 30, 31, 32, 6, 33, 34, 35, 36, 37, 38, 39, 40, 41, 42, 63, 64, 65] (by decide +kernel) (by decide +kernel)
set_option maxRecDepth 20000 in
theorem gX4_place_X2_numberOf : GoodIn wsX4_place (wsV RX4 133 RX2 yX2_numberOf wsX2_numberOf) := goodIn_app (goodIn_of _ (by decide +kernel)) ggX4_place_X2_numberOf
theorem dX4_place_0 : decode cX4_place 0 = .ok (.aload_n 0, 1) := by decide +kernel
theorem dX4_place_1 : decode cX4_place 1 = .ok (.iload_n 1, 1) := by decide +kernel
theorem dX4_place_2 : decode cX4_place 2 = .ok (.invokevirtual 56, 3) := by decide +kernel
theorem dX4_place_5 : decode cX4_place 5 = .ok (.astore 4, 2) := by decide +kernel
theorem dX4_place_7 : decode cX4_place 7 = .ok (.iload_n 2, 1) := by decide +kernel
theorem dX4_place_8 : decode cX4_place 8 = .ok (.invokestatic 127, 3) := by decide +kernel
theorem dX4_place_11 : decode cX4_place 11 = .ok (.ifCond .eq 14, 3) := by decide +kernel
theorem dX4_place_14 : decode cX4_place 14 = .ok (.iload_n 3, 1) := by decide +kernel
theorem dX4_place_15 : decode cX4_place 15 = .ok (.invokestatic 127, 3) := by decide +kernel
theorem dX4_place_18 : decode cX4_place 18 = .ok (.ifCond .eq 7, 3) := by decide +kernel
theorem dX4_place_21 : decode cX4_place 21 = .ok (.iconst 1, 1) := by decide +kernel
theorem dX4_place_22 : decode cX4_place 22 = .ok (.goto 4, 3) := by decide +kernel
theorem dX4_place_25 : decode cX4_place 25 = .ok (.iconst 0, 1) := by decide +kernel
theorem dX4_place_26 : decode cX4_place 26 = .ok (.invokestatic 37, 3) := by decide +kernel
theorem dX4_place_29 : decode cX4_place 29 = .ok (.aload 4, 2) := by decide +kernel
theorem dX4_place_31 : decode cX4_place 31 = .ok (.getfield 100, 3) := by decide +kernel
theorem dX4_place_34 : decode cX4_place 34 = .ok (.invokestatic 45, 3) := by decide +kernel
theorem dX4_place_37 : decode cX4_place 37 = .ok (.aload 4, 2) := by decide +kernel
theorem dX4_place_39 : decode cX4_place 39 = .ok (.getfield 130, 3) := by decide +kernel
theorem dX4_place_42 : decode cX4_place 42 = .ok (.iload_n 2, 1) := by decide +kernel
theorem dX4_place_43 : decode cX4_place 43 = .ok (.iload_n 3, 1) := by decide +kernel
theorem dX4_place_44 : decode cX4_place 44 = .ok (.invokevirtual 133, 3) := by decide +kernel
theorem dX4_place_47 : decode cX4_place 47 = .ok (.ireturn, 1) := by decide +kernel
set_option maxRecDepth 20000 in
theorem ggX4_growth_X4_inSlot : GoodIn wsX4_growth wsX4_inSlot := goodIn_ca (goodIn_r _ [7, 8, 9, 10, 57, 58, 59, 60, 61] (by decide +kernel) (by decide +kernel)) (goodIn_sub (fun _ h => List.mem_cons_of_mem _ (List.mem_append_left _ (List.mem_append_left _ (List.mem_append_right _ h)))) (by decide +kernel))
set_option maxRecDepth 20000 in
theorem gX4_growth_X4_inSlot : GoodIn wsX4_growth (wsV RX4 56 RX4 yX4_inSlot wsX4_inSlot) := goodIn_app (goodIn_of _ (by decide +kernel)) ggX4_growth_X4_inSlot
set_option maxRecDepth 20000 in
theorem ggX4_growth_X4_needArgument : GoodIn wsX4_growth wsX4_needArgument := goodIn_ca (goodIn_r _ [13, 14, 15] (by decide +kernel) (by decide +kernel)) (goodIn_sub (fun _ h => List.mem_cons_of_mem _ (List.mem_append_left _ (List.mem_append_right _ h))) (by decide +kernel))
set_option maxRecDepth 20000 in
theorem gX4_growth_X4_needArgument : GoodIn wsX4_growth (va_wsS RX4 37 yX4_needArgument wsX4_needArgument) := goodIn_app (goodIn_of _ (by decide +kernel)) ggX4_growth_X4_needArgument
set_option maxRecDepth 20000 in
theorem ggX4_growth_X3_hasPlace : GoodIn wsX4_growth wsX3_hasPlace := goodIn_r _ [20, 21, 22, 23, 24, 19, 25, 26, 27, 28, 29, 30, 31, 32, 33, 42, 43, 44, 45, 46, 47, 48, 49, 50, 51, 52, 53, 54, 55, 56, 62, 63, 64] (by decide +kernel) (by decide +kernel)
set_option maxRecDepth 20000 in
theorem gX4_growth_X3_hasPlace : GoodIn wsX4_growth (wsV RX4 137 RX3 yX3_hasPlace wsX3_hasPlace) := goodIn_app (goodIn_of _ (by decide +kernel)) ggX4_growth_X3_hasPlace
set_option maxRecDepth 20000 in
theorem ggX4_growth_X4_needState : GoodIn wsX4_growth wsX4_needState := goodIn_ca (goodIn_r _ [36, 37, 38] (by decide +kernel) (by decide +kernel)) (goodIn_sub (fun _ h => List.mem_cons_of_mem _ (List.mem_append_right _ h)) (by decide +kernel))
set_option maxRecDepth 20000 in
theorem gX4_growth_X4_needState : GoodIn wsX4_growth (va_wsS RX4 45 yX4_needState wsX4_needState) := goodIn_app (goodIn_of _ (by decide +kernel)) ggX4_growth_X4_needState
set_option maxRecDepth 20000 in
theorem ggX4_growth_X4_at : GoodIn wsX4_growth wsX4_at := goodIn_r _ [41] (by decide +kernel) (by decide +kernel)
set_option maxRecDepth 20000 in
theorem gX4_growth_X4_at : GoodIn wsX4_growth (va_wsS RX4 68 yX4_at wsX4_at) := goodIn_app (goodIn_of _ (by decide +kernel)) ggX4_growth_X4_at
theorem dX4_growth_0 : decode cX4_growth 0 = .ok (.aload_n 0, 1) := by decide +kernel
theorem dX4_growth_1 : decode cX4_growth 1 = .ok (.iload_n 1, 1) := by decide +kernel
theorem dX4_growth_2 : decode cX4_growth 2 = .ok (.invokevirtual 56, 3) := by decide +kernel
theorem dX4_growth_5 : decode cX4_growth 5 = .ok (.astore 4, 2) := by decide +kernel
theorem dX4_growth_7 : decode cX4_growth 7 = .ok (.iload_n 3, 1) := by decide +kernel
theorem dX4_growth_8 : decode cX4_growth 8 = .ok (.ifCond .eq 8, 3) := by decide +kernel
theorem dX4_growth_11 : decode cX4_growth 11 = .ok (.iload_n 3, 1) := by decide +kernel
theorem dX4_growth_12 : decode cX4_growth 12 = .ok (.iconst 1, 1) := by decide +kernel
theorem dX4_growth_13 : decode cX4_growth 13 = .ok (.if_icmp .ne 7, 3) := by decide +kernel
theorem dX4_growth_16 : decode cX4_growth 16 = .ok (.iconst 1, 1) := by decide +kernel
theorem dX4_growth_17 : decode cX4_growth 17 = .ok (.goto 4, 3) := by decide +kernel
theorem dX4_growth_20 : decode cX4_growth 20 = .ok (.iconst 0, 1) := by decide +kernel
theorem dX4_growth_21 : decode cX4_growth 21 = .ok (.invokestatic 37, 3) := by decide +kernel
theorem dX4_growth_24 : decode cX4_growth 24 = .ok (.aload 4, 2) := by decide +kernel
theorem dX4_growth_26 : decode cX4_growth 26 = .ok (.iload_n 2, 1) := by decide +kernel
theorem dX4_growth_27 : decode cX4_growth 27 = .ok (.invokevirtual 137, 3) := by decide +kernel
theorem dX4_growth_30 : decode cX4_growth 30 = .ok (.invokestatic 45, 3) := by decide +kernel
theorem dX4_growth_33 : decode cX4_growth 33 = .ok (.iload_n 3, 1) := by decide +kernel
theorem dX4_growth_34 : decode cX4_growth 34 = .ok (.ifCond .ne 11, 3) := by decide +kernel
theorem dX4_growth_37 : decode cX4_growth 37 = .ok (.aload 4, 2) := by decide +kernel
theorem dX4_growth_39 : decode cX4_growth 39 = .ok (.getfield 140, 3) := by decide +kernel
theorem dX4_growth_42 : decode cX4_growth 42 = .ok (.goto 8, 3) := by decide +kernel
theorem dX4_growth_45 : decode cX4_growth 45 = .ok (.aload 4, 2) := by decide +kernel
theorem dX4_growth_47 : decode cX4_growth 47 = .ok (.getfield 143, 3) := by decide +kernel
theorem dX4_growth_50 : decode cX4_growth 50 = .ok (.iload_n 2, 1) := by decide +kernel
theorem dX4_growth_51 : decode cX4_growth 51 = .ok (.invokestatic 68, 3) := by decide +kernel
theorem dX4_growth_54 : decode cX4_growth 54 = .ok (.ireturn, 1) := by decide +kernel
set_option maxRecDepth 20000 in
theorem ggX4_placeOf_X4_inSlot : GoodIn wsX4_placeOf wsX4_inSlot := goodIn_ca (goodIn_r _ [6, 7, 8, 9, 51, 52, 53, 54, 55] (by decide +kernel) (by decide +kernel)) (goodIn_sub (fun _ h => List.mem_cons_of_mem _ (List.mem_append_left _ (List.mem_append_right _ h))) (by decide +kernel))
set_option maxRecDepth 20000 in
theorem gX4_placeOf_X4_inSlot : GoodIn wsX4_placeOf (wsV RX4 56 RX4 yX4_inSlot wsX4_inSlot) := goodIn_app (goodIn_of _ (by decide +kernel)) ggX4_placeOf_X4_inSlot
set_option maxRecDepth 20000 in
theorem ggX4_placeOf_X3_hasPlace : GoodIn wsX4_placeOf wsX3_hasPlace := goodIn_r _ [14, 15, 16, 17, 18, 13, 19, 20, 21, 22, 23, 24, 25, 26, 27, 36, 37, 38, 39, 40, 41, 42, 43, 44, 45, 46, 47, 48, 49, 50, 56, 57, 58] (by decide +kernel) (by decide +kernel)
set_option maxRecDepth 20000 in
theorem gX4_placeOf_X3_hasPlace : GoodIn wsX4_placeOf (wsV RX4 137 RX3 yX3_hasPlace wsX3_hasPlace) := goodIn_app (goodIn_of _ (by decide +kernel)) ggX4_placeOf_X3_hasPlace
set_option maxRecDepth 20000 in
theorem ggX4_placeOf_X4_needState : GoodIn wsX4_placeOf wsX4_needState := goodIn_ca (goodIn_r _ [30, 31, 32] (by decide +kernel) (by decide +kernel)) (goodIn_sub (fun _ h => List.mem_cons_of_mem _ (List.mem_append_right _ h)) (by decide +kernel))
set_option maxRecDepth 20000 in
theorem gX4_placeOf_X4_needState : GoodIn wsX4_placeOf (va_wsS RX4 45 yX4_needState wsX4_needState) := goodIn_app (goodIn_of _ (by decide +kernel)) ggX4_placeOf_X4_needState
set_option maxRecDepth 20000 in
theorem ggX4_placeOf_X4_at : GoodIn wsX4_placeOf wsX4_at := goodIn_r _ [35] (by decide +kernel) (by decide +kernel)
set_option maxRecDepth 20000 in
theorem gX4_placeOf_X4_at : GoodIn wsX4_placeOf (va_wsS RX4 68 yX4_at wsX4_at) := goodIn_app (goodIn_of _ (by decide +kernel)) ggX4_placeOf_X4_at
theorem dX4_placeOf_0 : decode cX4_placeOf 0 = .ok (.aload_n 0, 1) := by decide +kernel
theorem dX4_placeOf_1 : decode cX4_placeOf 1 = .ok (.iload_n 1, 1) := by decide +kernel
theorem dX4_placeOf_2 : decode cX4_placeOf 2 = .ok (.invokevirtual 56, 3) := by decide +kernel
theorem dX4_placeOf_5 : decode cX4_placeOf 5 = .ok (.astore_n 3, 1) := by decide +kernel
theorem dX4_placeOf_6 : decode cX4_placeOf 6 = .ok (.aload_n 3, 1) := by decide +kernel
theorem dX4_placeOf_7 : decode cX4_placeOf 7 = .ok (.iload_n 2, 1) := by decide +kernel
theorem dX4_placeOf_8 : decode cX4_placeOf 8 = .ok (.invokevirtual 137, 3) := by decide +kernel
theorem dX4_placeOf_11 : decode cX4_placeOf 11 = .ok (.invokestatic 45, 3) := by decide +kernel
theorem dX4_placeOf_14 : decode cX4_placeOf 14 = .ok (.aload_n 3, 1) := by decide +kernel
theorem dX4_placeOf_15 : decode cX4_placeOf 15 = .ok (.getfield 146, 3) := by decide +kernel
theorem dX4_placeOf_18 : decode cX4_placeOf 18 = .ok (.iload_n 2, 1) := by decide +kernel
theorem dX4_placeOf_19 : decode cX4_placeOf 19 = .ok (.invokestatic 68, 3) := by decide +kernel
theorem dX4_placeOf_22 : decode cX4_placeOf 22 = .ok (.ireturn, 1) := by decide +kernel
set_option maxRecDepth 20000 in
theorem ggX4_pixel_X4_isPosition : GoodIn wsX4_pixel wsX4_isPosition := goodIn_r _ [4] (by decide +kernel) (by decide +kernel)
set_option maxRecDepth 20000 in
theorem gX4_pixel_X4_isPosition : GoodIn wsX4_pixel (va_wsS RX4 127 yX4_isPosition wsX4_isPosition) := goodIn_app (goodIn_of _ (by decide +kernel)) ggX4_pixel_X4_isPosition
set_option maxRecDepth 20000 in
theorem ggX4_pixel_X4_needArgument : GoodIn wsX4_pixel wsX4_needArgument := goodIn_ca (goodIn_r _ [7, 8, 9] (by decide +kernel) (by decide +kernel)) (goodIn_sub (fun _ h => List.mem_cons_of_mem _ (List.mem_append_right _ h)) (by decide +kernel))
set_option maxRecDepth 20000 in
theorem gX4_pixel_X4_needArgument : GoodIn wsX4_pixel (va_wsS RX4 37 yX4_needArgument wsX4_needArgument) := goodIn_app (goodIn_of _ (by decide +kernel)) ggX4_pixel_X4_needArgument
set_option maxRecDepth 20000 in
theorem ggX4_pixel_X4_inksOf : GoodIn wsX4_pixel wsX4_inksOf := goodIn_r _ [13, 14, 15, 16, 17, 18, 19, 20, 21, 22, 23, 24, 25, 26, 27, 28, 29, 30, 31, 3, 32, 33, 34, 35, 36, 37, 38, 39, 40, 41, 42, 43, 44, 45, 46, 47, 48, 49, 50, 51, 52, 53, 54, 55, 56, 57, 58, 59, 60, 61, 62, 63, 64, 65, 66, 67, 68, 69, 70, 71] (by decide +kernel) (by decide +kernel)
set_option maxRecDepth 20000 in
theorem gX4_pixel_X4_inksOf : GoodIn wsX4_pixel (wsV RX4 149 RX4 yX4_inksOf wsX4_inksOf) := goodIn_app (goodIn_of _ (by decide +kernel)) ggX4_pixel_X4_inksOf
theorem dX4_pixel_0 : decode cX4_pixel 0 = .ok (.iload_n 1, 1) := by decide +kernel
theorem dX4_pixel_1 : decode cX4_pixel 1 = .ok (.invokestatic 127, 3) := by decide +kernel
theorem dX4_pixel_4 : decode cX4_pixel 4 = .ok (.ifCond .eq 14, 3) := by decide +kernel
theorem dX4_pixel_7 : decode cX4_pixel 7 = .ok (.iload_n 2, 1) := by decide +kernel
theorem dX4_pixel_8 : decode cX4_pixel 8 = .ok (.invokestatic 127, 3) := by decide +kernel
theorem dX4_pixel_11 : decode cX4_pixel 11 = .ok (.ifCond .eq 7, 3) := by decide +kernel
theorem dX4_pixel_14 : decode cX4_pixel 14 = .ok (.iconst 1, 1) := by decide +kernel
theorem dX4_pixel_15 : decode cX4_pixel 15 = .ok (.goto 4, 3) := by decide +kernel
theorem dX4_pixel_18 : decode cX4_pixel 18 = .ok (.iconst 0, 1) := by decide +kernel
theorem dX4_pixel_19 : decode cX4_pixel 19 = .ok (.invokestatic 37, 3) := by decide +kernel
theorem dX4_pixel_22 : decode cX4_pixel 22 = .ok (.aload_n 0, 1) := by decide +kernel
theorem dX4_pixel_23 : decode cX4_pixel 23 = .ok (.iload_n 1, 1) := by decide +kernel
theorem dX4_pixel_24 : decode cX4_pixel 24 = .ok (.iload_n 2, 1) := by decide +kernel
theorem dX4_pixel_25 : decode cX4_pixel 25 = .ok (.invokevirtual 149, 3) := by decide +kernel
theorem dX4_pixel_28 : decode cX4_pixel 28 = .ok (.ireturn, 1) := by decide +kernel
set_option maxRecDepth 20000 in
theorem ggX4_inked_X4_inSlot : GoodIn wsX4_inked wsX4_inSlot := goodIn_ca (goodIn_r _ [6, 7, 8, 9, 74, 75, 76, 77, 78] (by decide +kernel) (by decide +kernel)) (goodIn_sub (fun _ h => List.mem_cons_of_mem _ (List.mem_append_left _ (List.mem_append_left _ (List.mem_append_right _ h)))) (by decide +kernel))
set_option maxRecDepth 20000 in
theorem gX4_inked_X4_inSlot : GoodIn wsX4_inked (wsV RX4 56 RX4 yX4_inSlot wsX4_inSlot) := goodIn_app (goodIn_of _ (by decide +kernel)) ggX4_inked_X4_inSlot
set_option maxRecDepth 20000 in
theorem ggX4_inked_X4_isPosition : GoodIn wsX4_inked wsX4_isPosition := goodIn_r _ [12] (by decide +kernel) (by decide +kernel)
set_option maxRecDepth 20000 in
theorem gX4_inked_X4_isPosition : GoodIn wsX4_inked (va_wsS RX4 127 yX4_isPosition wsX4_isPosition) := goodIn_app (goodIn_of _ (by decide +kernel)) ggX4_inked_X4_isPosition
set_option maxRecDepth 20000 in
theorem ggX4_inked_X4_isSide : GoodIn wsX4_inked wsX4_isSide := goodIn_r _ [15] (by decide +kernel) (by decide +kernel)
set_option maxRecDepth 20000 in
theorem gX4_inked_X4_isSide : GoodIn wsX4_inked (va_wsS RX4 152 yX4_isSide wsX4_isSide) := goodIn_app (goodIn_of _ (by decide +kernel)) ggX4_inked_X4_isSide
set_option maxRecDepth 20000 in
theorem ggX4_inked_X4_needArgument : GoodIn wsX4_inked wsX4_needArgument := goodIn_ca (goodIn_r _ [18, 19, 20] (by decide +kernel) (by decide +kernel)) (goodIn_sub (fun _ h => List.mem_cons_of_mem _ (List.mem_append_left _ (List.mem_append_right _ h))) (by decide +kernel))
set_option maxRecDepth 20000 in
theorem gX4_inked_X4_needArgument : GoodIn wsX4_inked (va_wsS RX4 37 yX4_needArgument wsX4_needArgument) := goodIn_app (goodIn_of _ (by decide +kernel)) ggX4_inked_X4_needArgument
set_option maxRecDepth 20000 in
theorem ggX4_inked_X4_needState : GoodIn wsX4_inked wsX4_needState := goodIn_ca (goodIn_r _ [23, 24, 25] (by decide +kernel) (by decide +kernel)) (goodIn_sub (fun _ h => List.mem_cons_of_mem _ (List.mem_append_right _ h)) (by decide +kernel))
set_option maxRecDepth 20000 in
theorem gX4_inked_X4_needState : GoodIn wsX4_inked (va_wsS RX4 45 yX4_needState wsX4_needState) := goodIn_app (goodIn_of _ (by decide +kernel)) ggX4_inked_X4_needState
set_option maxRecDepth 20000 in
theorem ggX4_inked_X3_inks : GoodIn wsX4_inked wsX3_inks := goodIn_r _ [30, 31, 32, 33, 34, 35, 36, 37, 38, 39, 40, 41, 5, 42, 43, 44, 45, 46, 47, 48, 49, 50, 51, 52, 53, 54, 29, 55, 56, 57, 58, 59, 60, 61, 62, 63, 64, 65, 66, 67, 68, 69, 70, 71, 72, 73, 79, 80, 81] (by decide +kernel) (by decide +kernel)
set_option maxRecDepth 20000 in
theorem gX4_inked_X3_inks : GoodIn wsX4_inked (wsV RX4 155 RX3 yX3_inks wsX3_inks) := goodIn_app (goodIn_of _ (by decide +kernel)) ggX4_inked_X3_inks
theorem dX4_inked_0 : decode cX4_inked 0 = .ok (.aload_n 0, 1) := by decide +kernel
theorem dX4_inked_1 : decode cX4_inked 1 = .ok (.iload_n 1, 1) := by decide +kernel
theorem dX4_inked_2 : decode cX4_inked 2 = .ok (.invokevirtual 56, 3) := by decide +kernel
theorem dX4_inked_5 : decode cX4_inked 5 = .ok (.astore 6, 2) := by decide +kernel
theorem dX4_inked_7 : decode cX4_inked 7 = .ok (.iload_n 2, 1) := by decide +kernel
theorem dX4_inked_8 : decode cX4_inked 8 = .ok (.invokestatic 127, 3) := by decide +kernel
theorem dX4_inked_11 : decode cX4_inked 11 = .ok (.ifCond .eq 30, 3) := by decide +kernel
theorem dX4_inked_14 : decode cX4_inked 14 = .ok (.iload_n 3, 1) := by decide +kernel
theorem dX4_inked_15 : decode cX4_inked 15 = .ok (.invokestatic 127, 3) := by decide +kernel
theorem dX4_inked_18 : decode cX4_inked 18 = .ok (.ifCond .eq 23, 3) := by decide +kernel
theorem dX4_inked_21 : decode cX4_inked 21 = .ok (.iload 4, 2) := by decide +kernel
theorem dX4_inked_23 : decode cX4_inked 23 = .ok (.invokestatic 152, 3) := by decide +kernel
theorem dX4_inked_26 : decode cX4_inked 26 = .ok (.ifCond .eq 15, 3) := by decide +kernel
theorem dX4_inked_29 : decode cX4_inked 29 = .ok (.iload 5, 2) := by decide +kernel
theorem dX4_inked_31 : decode cX4_inked 31 = .ok (.invokestatic 152, 3) := by decide +kernel
theorem dX4_inked_34 : decode cX4_inked 34 = .ok (.ifCond .eq 7, 3) := by decide +kernel
theorem dX4_inked_37 : decode cX4_inked 37 = .ok (.iconst 1, 1) := by decide +kernel
theorem dX4_inked_38 : decode cX4_inked 38 = .ok (.goto 4, 3) := by decide +kernel
theorem dX4_inked_41 : decode cX4_inked 41 = .ok (.iconst 0, 1) := by decide +kernel
theorem dX4_inked_42 : decode cX4_inked 42 = .ok (.invokestatic 37, 3) := by decide +kernel
theorem dX4_inked_45 : decode cX4_inked 45 = .ok (.aload 6, 2) := by decide +kernel
theorem dX4_inked_47 : decode cX4_inked 47 = .ok (.getfield 100, 3) := by decide +kernel
theorem dX4_inked_50 : decode cX4_inked 50 = .ok (.invokestatic 45, 3) := by decide +kernel
theorem dX4_inked_53 : decode cX4_inked 53 = .ok (.iconst 0, 1) := by decide +kernel
theorem dX4_inked_54 : decode cX4_inked 54 = .ok (.istore 7, 2) := by decide +kernel
theorem dX4_inked_56 : decode cX4_inked 56 = .ok (.iconst 0, 1) := by decide +kernel
theorem dX4_inked_57 : decode cX4_inked 57 = .ok (.istore 8, 2) := by decide +kernel
theorem dX4_inked_59 : decode cX4_inked 59 = .ok (.iload 8, 2) := by decide +kernel
theorem dX4_inked_61 : decode cX4_inked 61 = .ok (.iload 5, 2) := by decide +kernel
theorem dX4_inked_63 : decode cX4_inked 63 = .ok (.if_icmp .ge 44, 3) := by decide +kernel
theorem dX4_inked_66 : decode cX4_inked 66 = .ok (.iconst 0, 1) := by decide +kernel
theorem dX4_inked_67 : decode cX4_inked 67 = .ok (.istore 9, 2) := by decide +kernel
theorem dX4_inked_69 : decode cX4_inked 69 = .ok (.iload 9, 2) := by decide +kernel
theorem dX4_inked_71 : decode cX4_inked 71 = .ok (.iload 4, 2) := by decide +kernel
theorem dX4_inked_73 : decode cX4_inked 73 = .ok (.if_icmp .ge 28, 3) := by decide +kernel
theorem dX4_inked_76 : decode cX4_inked 76 = .ok (.aload 6, 2) := by decide +kernel
theorem dX4_inked_78 : decode cX4_inked 78 = .ok (.iload_n 2, 1) := by decide +kernel
theorem dX4_inked_79 : decode cX4_inked 79 = .ok (.iload 9, 2) := by decide +kernel
theorem dX4_inked_81 : decode cX4_inked 81 = .ok (.iadd, 1) := by decide +kernel
theorem dX4_inked_82 : decode cX4_inked 82 = .ok (.iload_n 3, 1) := by decide +kernel
theorem dX4_inked_83 : decode cX4_inked 83 = .ok (.iload 8, 2) := by decide +kernel
theorem dX4_inked_85 : decode cX4_inked 85 = .ok (.iadd, 1) := by decide +kernel
theorem dX4_inked_86 : decode cX4_inked 86 = .ok (.invokevirtual 155, 3) := by decide +kernel
theorem dX4_inked_89 : decode cX4_inked 89 = .ok (.ifCond .eq 6, 3) := by decide +kernel
theorem dX4_inked_92 : decode cX4_inked 92 = .ok (.iinc 7 1, 3) := by decide +kernel
theorem dX4_inked_95 : decode cX4_inked 95 = .ok (.iinc 9 1, 3) := by decide +kernel
theorem dX4_inked_98 : decode cX4_inked 98 = .ok (.goto (-29), 3) := by decide +kernel
theorem dX4_inked_101 : decode cX4_inked 101 = .ok (.iinc 8 1, 3) := by decide +kernel
theorem dX4_inked_104 : decode cX4_inked 104 = .ok (.goto (-45), 3) := by decide +kernel
theorem dX4_inked_107 : decode cX4_inked 107 = .ok (.iload 7, 2) := by decide +kernel
theorem dX4_inked_109 : decode cX4_inked 109 = .ok (.ireturn, 1) := by decide +kernel
set_option maxRecDepth 20000 in
theorem ggX4_dots_X4_inSlotWithSteps : GoodIn wsX4_dots wsX4_inSlotWithSteps := goodIn_ca (goodIn_ca (goodIn_ca (goodIn_r _ [7, 8, 9, 10, 11, 6, 12, 13, 14, 15, 16, 17, 18, 19, 20, 21, 22, 23, 24, 25, 26, 27, 28, 29, 30, 31, 32, 33, 34, 35, 36, 37, 38, 100, 101, 102, 103, 104, 105, 106, 107, 108, 109, 110, 111, 112, 113, 114, 85, 86, 87, 88, 89, 115, 116, 117] (by decide +kernel) (by decide +kernel)) (goodIn_sub (fun _ h => List.mem_cons_of_mem _ (List.mem_append_left _ (List.mem_append_left _ (List.mem_append_right _ h)))) (by decide +kernel))) (goodIn_sub (fun _ h => List.mem_cons_of_mem _ (List.mem_append_left _ (List.mem_append_right _ h))) (by decide +kernel))) (goodIn_sub (fun _ h => List.mem_cons_of_mem _ (List.mem_append_right _ h)) (by decide +kernel))
set_option maxRecDepth 20000 in
theorem gX4_dots_X4_inSlotWithSteps : GoodIn wsX4_dots (wsV RX4 114 RX4 yX4_inSlotWithSteps wsX4_inSlotWithSteps) := goodIn_app (goodIn_of _ (by decide +kernel)) ggX4_dots_X4_inSlotWithSteps
set_option maxRecDepth 20000 in
theorem ggX4_dots_X0_examine : GoodIn wsX4_dots wsX0_examine := goodIn_r _ [43, 44, 45, 46, 47, 48, 49, 50, 51, 52, 6, 53, 54, 22, 23, 24, 25, 26, 27, 28, 29, 30, 31, 32, 33, 55, 56, 57, 58, 59, 60, 61, 62, 63, 64, 42, 65, 66, 67, 68, 69, 70, 71, 72, 73, 74, 75, 76, 77, 78, 79, 80, 81, 82, 83, 84, 90, 91, 92, 93, 94, 95, 96, 97, 98, 99, 100, 101, 102, 103, 104, 105, 106, 107, 108, 109, 110, 111, 112, 113, 114, 115, 116, 117] (by decide +kernel) (by decide +kernel)
set_option maxRecDepth 20000 in
theorem gX4_dots_X0_examine : GoodIn wsX4_dots (wsV RX4 159 RX0 yX0_examine wsX0_examine) := goodIn_app (goodIn_of _ (by decide +kernel)) ggX4_dots_X0_examine
theorem dX4_dots_0 : decode cX4_dots 0 = .ok (.aload_n 0, 1) := by decide +kernel
theorem dX4_dots_1 : decode cX4_dots 1 = .ok (.getfield 25, 3) := by decide +kernel
theorem dX4_dots_4 : decode cX4_dots 4 = .ok (.aload_n 0, 1) := by decide +kernel
theorem dX4_dots_5 : decode cX4_dots 5 = .ok (.iload_n 1, 1) := by decide +kernel
theorem dX4_dots_6 : decode cX4_dots 6 = .ok (.iload_n 2, 1) := by decide +kernel
theorem dX4_dots_7 : decode cX4_dots 7 = .ok (.invokevirtual 114, 3) := by decide +kernel
theorem dX4_dots_10 : decode cX4_dots 10 = .ok (.iload_n 2, 1) := by decide +kernel
theorem dX4_dots_11 : decode cX4_dots 11 = .ok (.invokevirtual 159, 3) := by decide +kernel
theorem dX4_dots_14 : decode cX4_dots 14 = .ok (.aload_n 0, 1) := by decide +kernel
theorem dX4_dots_15 : decode cX4_dots 15 = .ok (.getfield 25, 3) := by decide +kernel
theorem dX4_dots_18 : decode cX4_dots 18 = .ok (.getfield 163, 3) := by decide +kernel
theorem dX4_dots_21 : decode cX4_dots 21 = .ok (.ireturn, 1) := by decide +kernel
set_option maxRecDepth 20000 in
theorem ggX4_joined_X4_inSlotWithSteps : GoodIn wsX4_joined wsX4_inSlotWithSteps := goodIn_ca (goodIn_ca (goodIn_ca (goodIn_r _ [7, 8, 9, 10, 11, 6, 12, 13, 14, 15, 16, 17, 18, 19, 20, 21, 22, 23, 24, 25, 26, 27, 28, 29, 30, 31, 32, 33, 34, 35, 36, 37, 38, 100, 101, 102, 103, 104, 105, 106, 107, 108, 109, 110, 111, 112, 113, 114, 85, 86, 87, 88, 89, 115, 116, 117] (by decide +kernel) (by decide +kernel)) (goodIn_sub (fun _ h => List.mem_cons_of_mem _ (List.mem_append_left _ (List.mem_append_left _ (List.mem_append_right _ h)))) (by decide +kernel))) (goodIn_sub (fun _ h => List.mem_cons_of_mem _ (List.mem_append_left _ (List.mem_append_right _ h))) (by decide +kernel))) (goodIn_sub (fun _ h => List.mem_cons_of_mem _ (List.mem_append_right _ h)) (by decide +kernel))
set_option maxRecDepth 20000 in
theorem gX4_joined_X4_inSlotWithSteps : GoodIn wsX4_joined (wsV RX4 114 RX4 yX4_inSlotWithSteps wsX4_inSlotWithSteps) := goodIn_app (goodIn_of _ (by decide +kernel)) ggX4_joined_X4_inSlotWithSteps
set_option maxRecDepth 20000 in
theorem ggX4_joined_X0_examine : GoodIn wsX4_joined wsX0_examine := goodIn_r _ [43, 44, 45, 46, 47, 48, 49, 50, 51, 52, 6, 53, 54, 22, 23, 24, 25, 26, 27, 28, 29, 30, 31, 32, 33, 55, 56, 57, 58, 59, 60, 61, 62, 63, 64, 42, 65, 66, 67, 68, 69, 70, 71, 72, 73, 74, 75, 76, 77, 78, 79, 80, 81, 82, 83, 84, 90, 91, 92, 93, 94, 95, 96, 97, 98, 99, 100, 101, 102, 103, 104, 105, 106, 107, 108, 109, 110, 111, 112, 113, 114, 115, 116, 117] (by decide +kernel) (by decide +kernel)
set_option maxRecDepth 20000 in
theorem gX4_joined_X0_examine : GoodIn wsX4_joined (wsV RX4 159 RX0 yX0_examine wsX0_examine) := goodIn_app (goodIn_of _ (by decide +kernel)) ggX4_joined_X0_examine
theorem dX4_joined_0 : decode cX4_joined 0 = .ok (.aload_n 0, 1) := by decide +kernel
theorem dX4_joined_1 : decode cX4_joined 1 = .ok (.getfield 25, 3) := by decide +kernel
theorem dX4_joined_4 : decode cX4_joined 4 = .ok (.aload_n 0, 1) := by decide +kernel
theorem dX4_joined_5 : decode cX4_joined 5 = .ok (.iload_n 1, 1) := by decide +kernel
theorem dX4_joined_6 : decode cX4_joined 6 = .ok (.iload_n 2, 1) := by decide +kernel
theorem dX4_joined_7 : decode cX4_joined 7 = .ok (.invokevirtual 114, 3) := by decide +kernel
theorem dX4_joined_10 : decode cX4_joined 10 = .ok (.iload_n 2, 1) := by decide +kernel
theorem dX4_joined_11 : decode cX4_joined 11 = .ok (.invokevirtual 159, 3) := by decide +kernel
theorem dX4_joined_14 : decode cX4_joined 14 = .ok (.aload_n 0, 1) := by decide +kernel
theorem dX4_joined_15 : decode cX4_joined 15 = .ok (.getfield 25, 3) := by decide +kernel
theorem dX4_joined_18 : decode cX4_joined 18 = .ok (.getfield 166, 3) := by decide +kernel
theorem dX4_joined_21 : decode cX4_joined 21 = .ok (.ireturn, 1) := by decide +kernel
set_option maxRecDepth 20000 in
theorem ggX4_firstJoined_X4_inSlot : GoodIn wsX4_firstJoined wsX4_inSlot := goodIn_ca (goodIn_r _ [8, 9, 10, 11, 96, 97, 98, 99, 100] (by decide +kernel) (by decide +kernel)) (goodIn_sub (fun _ h => List.mem_cons_of_mem _ (List.mem_append_left _ (List.mem_append_left _ (List.mem_append_right _ h)))) (by decide +kernel))
set_option maxRecDepth 20000 in
theorem gX4_firstJoined_X4_inSlot : GoodIn wsX4_firstJoined (wsV RX4 56 RX4 yX4_inSlot wsX4_inSlot) := goodIn_app (goodIn_of _ (by decide +kernel)) ggX4_firstJoined_X4_inSlot
set_option maxRecDepth 20000 in
theorem ggX4_firstJoined_X4_needArgument : GoodIn wsX4_firstJoined wsX4_needArgument := goodIn_ca (goodIn_r _ [14, 15, 16] (by decide +kernel) (by decide +kernel)) (goodIn_sub (fun _ h => List.mem_cons_of_mem _ (List.mem_append_left _ (List.mem_append_right _ h))) (by decide +kernel))
set_option maxRecDepth 20000 in
theorem gX4_firstJoined_X4_needArgument : GoodIn wsX4_firstJoined (va_wsS RX4 37 yX4_needArgument wsX4_needArgument) := goodIn_app (goodIn_of _ (by decide +kernel)) ggX4_firstJoined_X4_needArgument
set_option maxRecDepth 20000 in
theorem ggX4_firstJoined_X4_needState : GoodIn wsX4_firstJoined wsX4_needState := goodIn_ca (goodIn_r _ [19, 20, 21] (by decide +kernel) (by decide +kernel)) (goodIn_sub (fun _ h => List.mem_cons_of_mem _ (List.mem_append_right _ h)) (by decide +kernel))
set_option maxRecDepth 20000 in
theorem gX4_firstJoined_X4_needState : GoodIn wsX4_firstJoined (va_wsS RX4 45 yX4_needState wsX4_needState) := goodIn_app (goodIn_of _ (by decide +kernel)) ggX4_firstJoined_X4_needState
set_option maxRecDepth 20000 in
theorem ggX4_firstJoined_X3_area : GoodIn wsX4_firstJoined wsX3_area := goodIn_r _ [26, 27, 28, 29, 30, 31, 32, 33, 34, 81, 82, 83, 84, 85, 86, 87, 88, 89, 90, 91, 92, 93, 94, 95, 111, 112, 113] (by decide +kernel) (by decide +kernel)
set_option maxRecDepth 20000 in
theorem gX4_firstJoined_X3_area : GoodIn wsX4_firstJoined (wsV RX4 94 RX3 yX3_area wsX3_area) := goodIn_app (goodIn_of _ (by decide +kernel)) ggX4_firstJoined_X3_area
set_option maxRecDepth 20000 in
theorem ggX4_firstJoined_X0_examine : GoodIn wsX4_firstJoined wsX0_examine := goodIn_r _ [39, 40, 41, 42, 43, 44, 45, 46, 47, 48, 7, 49, 50, 23, 24, 25, 26, 27, 28, 29, 30, 31, 32, 33, 34, 51, 52, 53, 54, 55, 56, 57, 58, 59, 60, 38, 61, 62, 63, 64, 65, 66, 67, 68, 69, 70, 71, 72, 73, 74, 75, 76, 77, 78, 79, 80, 101, 102, 103, 104, 105, 106, 107, 108, 109, 110, 81, 82, 83, 84, 85, 86, 87, 88, 89, 90, 91, 92, 93, 94, 95, 111, 112, 113] (by decide +kernel) (by decide +kernel)
set_option maxRecDepth 20000 in
theorem gX4_firstJoined_X0_examine : GoodIn wsX4_firstJoined (wsV RX4 159 RX0 yX0_examine wsX0_examine) := goodIn_app (goodIn_of _ (by decide +kernel)) ggX4_firstJoined_X0_examine
theorem dX4_firstJoined_0 : decode cX4_firstJoined 0 = .ok (.aload_n 0, 1) := by decide +kernel
theorem dX4_firstJoined_1 : decode cX4_firstJoined 1 = .ok (.iload_n 1, 1) := by decide +kernel
theorem dX4_firstJoined_2 : decode cX4_firstJoined 2 = .ok (.invokevirtual 56, 3) := by decide +kernel
theorem dX4_firstJoined_5 : decode cX4_firstJoined 5 = .ok (.astore_n 3, 1) := by decide +kernel
theorem dX4_firstJoined_6 : decode cX4_firstJoined 6 = .ok (.iload_n 2, 1) := by decide +kernel
theorem dX4_firstJoined_7 : decode cX4_firstJoined 7 = .ok (.iconst 1, 1) := by decide +kernel
theorem dX4_firstJoined_8 : decode cX4_firstJoined 8 = .ok (.if_icmp .eq 8, 3) := by decide +kernel
theorem dX4_firstJoined_11 : decode cX4_firstJoined 11 = .ok (.iload_n 2, 1) := by decide +kernel
theorem dX4_firstJoined_12 : decode cX4_firstJoined 12 = .ok (.iconst 2, 1) := by decide +kernel
theorem dX4_firstJoined_13 : decode cX4_firstJoined 13 = .ok (.if_icmp .ne 7, 3) := by decide +kernel
theorem dX4_firstJoined_16 : decode cX4_firstJoined 16 = .ok (.iconst 1, 1) := by decide +kernel
theorem dX4_firstJoined_17 : decode cX4_firstJoined 17 = .ok (.goto 4, 3) := by decide +kernel
theorem dX4_firstJoined_20 : decode cX4_firstJoined 20 = .ok (.iconst 0, 1) := by decide +kernel
theorem dX4_firstJoined_21 : decode cX4_firstJoined 21 = .ok (.invokestatic 37, 3) := by decide +kernel
theorem dX4_firstJoined_24 : decode cX4_firstJoined 24 = .ok (.aload_n 3, 1) := by decide +kernel
theorem dX4_firstJoined_25 : decode cX4_firstJoined 25 = .ok (.getfield 100, 3) := by decide +kernel
theorem dX4_firstJoined_28 : decode cX4_firstJoined 28 = .ok (.invokestatic 45, 3) := by decide +kernel
theorem dX4_firstJoined_31 : decode cX4_firstJoined 31 = .ok (.aload_n 3, 1) := by decide +kernel
theorem dX4_firstJoined_32 : decode cX4_firstJoined 32 = .ok (.invokevirtual 94, 3) := by decide +kernel
theorem dX4_firstJoined_35 : decode cX4_firstJoined 35 = .ok (.istore 4, 2) := by decide +kernel
theorem dX4_firstJoined_37 : decode cX4_firstJoined 37 = .ok (.iconst 1, 1) := by decide +kernel
theorem dX4_firstJoined_38 : decode cX4_firstJoined 38 = .ok (.istore 5, 2) := by decide +kernel
theorem dX4_firstJoined_40 : decode cX4_firstJoined 40 = .ok (.iload 5, 2) := by decide +kernel
theorem dX4_firstJoined_42 : decode cX4_firstJoined 42 = .ok (.iload 4, 2) := by decide +kernel
theorem dX4_firstJoined_44 : decode cX4_firstJoined 44 = .ok (.if_icmp .ge 33, 3) := by decide +kernel
theorem dX4_firstJoined_47 : decode cX4_firstJoined 47 = .ok (.aload_n 0, 1) := by decide +kernel
theorem dX4_firstJoined_48 : decode cX4_firstJoined 48 = .ok (.getfield 25, 3) := by decide +kernel
theorem dX4_firstJoined_51 : decode cX4_firstJoined 51 = .ok (.aload_n 3, 1) := by decide +kernel
theorem dX4_firstJoined_52 : decode cX4_firstJoined 52 = .ok (.iload 5, 2) := by decide +kernel
theorem dX4_firstJoined_54 : decode cX4_firstJoined 54 = .ok (.invokevirtual 159, 3) := by decide +kernel
theorem dX4_firstJoined_57 : decode cX4_firstJoined 57 = .ok (.aload_n 0, 1) := by decide +kernel
theorem dX4_firstJoined_58 : decode cX4_firstJoined 58 = .ok (.getfield 25, 3) := by decide +kernel
theorem dX4_firstJoined_61 : decode cX4_firstJoined 61 = .ok (.getfield 166, 3) := by decide +kernel
theorem dX4_firstJoined_64 : decode cX4_firstJoined 64 = .ok (.iload_n 2, 1) := by decide +kernel
theorem dX4_firstJoined_65 : decode cX4_firstJoined 65 = .ok (.if_icmp .lt 6, 3) := by decide +kernel
theorem dX4_firstJoined_68 : decode cX4_firstJoined 68 = .ok (.iload 5, 2) := by decide +kernel
theorem dX4_firstJoined_70 : decode cX4_firstJoined 70 = .ok (.ireturn, 1) := by decide +kernel
theorem dX4_firstJoined_71 : decode cX4_firstJoined 71 = .ok (.iinc 5 1, 3) := by decide +kernel
theorem dX4_firstJoined_74 : decode cX4_firstJoined 74 = .ok (.goto (-34), 3) := by decide +kernel
theorem dX4_firstJoined_77 : decode cX4_firstJoined 77 = .ok (.iload 4, 2) := by decide +kernel
theorem dX4_firstJoined_79 : decode cX4_firstJoined 79 = .ok (.ireturn, 1) := by decide +kernel
set_option maxRecDepth 20000 in
theorem ggX4_strength_X4_inSlotWithSteps : GoodIn wsX4_strength wsX4_inSlotWithSteps := goodIn_ca (goodIn_ca (goodIn_ca (goodIn_r _ [6, 7, 8, 9, 10, 5, 11, 12, 13, 14, 15, 16, 17, 18, 19, 20, 21, 22, 23, 24, 25, 26, 27, 28, 29, 30, 31, 32, 33, 34, 35, 36, 37, 68, 69, 70, 71, 72, 73, 74, 75, 76, 77, 78, 79, 80, 81, 82, 63, 64, 65, 66, 67, 83, 84, 85] (by decide +kernel) (by decide +kernel)) (goodIn_sub (fun _ h => List.mem_cons_of_mem _ (List.mem_append_left _ (List.mem_append_left _ (List.mem_append_right _ h)))) (by decide +kernel))) (goodIn_sub (fun _ h => List.mem_cons_of_mem _ (List.mem_append_left _ (List.mem_append_right _ h))) (by decide +kernel))) (goodIn_sub (fun _ h => List.mem_cons_of_mem _ (List.mem_append_right _ h)) (by decide +kernel))
set_option maxRecDepth 20000 in
theorem gX4_strength_X4_inSlotWithSteps : GoodIn wsX4_strength (wsV RX4 114 RX4 yX4_inSlotWithSteps wsX4_inSlotWithSteps) := goodIn_app (goodIn_of _ (by decide +kernel)) ggX4_strength_X4_inSlotWithSteps
set_option maxRecDepth 20000 in
theorem ggX4_strength_X3_strengthOf : GoodIn wsX4_strength wsX3_strengthOf := goodIn_r _ [41, 42, 43, 44, 45, 46, 21, 22, 23, 24, 25, 26, 27, 28, 29, 30, 31, 32, 47, 48, 49, 50, 51, 52, 5, 53, 54, 55, 56, 57, 58, 59, 60, 61, 62, 68, 69, 70, 71, 72, 73, 74, 75, 76, 77, 78, 79, 80, 81, 82, 83, 84, 85] (by decide +kernel) (by decide +kernel)
set_option maxRecDepth 20000 in
theorem gX4_strength_X3_strengthOf : GoodIn wsX4_strength (wsV RX4 169 RX3 yX3_strengthOf wsX3_strengthOf) := goodIn_app (goodIn_of _ (by decide +kernel)) ggX4_strength_X3_strengthOf
theorem dX4_strength_0 : decode cX4_strength 0 = .ok (.aload_n 0, 1) := by decide +kernel
theorem dX4_strength_1 : decode cX4_strength 1 = .ok (.iload_n 1, 1) := by decide +kernel
theorem dX4_strength_2 : decode cX4_strength 2 = .ok (.iload_n 2, 1) := by decide +kernel
theorem dX4_strength_3 : decode cX4_strength 3 = .ok (.invokevirtual 114, 3) := by decide +kernel
theorem dX4_strength_6 : decode cX4_strength 6 = .ok (.iload_n 2, 1) := by decide +kernel
theorem dX4_strength_7 : decode cX4_strength 7 = .ok (.aload_n 0, 1) := by decide +kernel
theorem dX4_strength_8 : decode cX4_strength 8 = .ok (.getfield 121, 3) := by decide +kernel
theorem dX4_strength_11 : decode cX4_strength 11 = .ok (.invokevirtual 169, 3) := by decide +kernel
theorem dX4_strength_14 : decode cX4_strength 14 = .ok (.ireturn, 1) := by decide +kernel
set_option maxRecDepth 20000 in
theorem ggX4_meanStrength_X4_inSlot : GoodIn wsX4_meanStrength wsX4_inSlot := goodIn_ca (goodIn_r _ [8, 9, 10, 11, 70, 71, 72, 73, 74] (by decide +kernel) (by decide +kernel)) (goodIn_sub (fun _ h => List.mem_cons_of_mem _ (List.mem_append_left _ (List.mem_append_right _ h))) (by decide +kernel))
set_option maxRecDepth 20000 in
theorem gX4_meanStrength_X4_inSlot : GoodIn wsX4_meanStrength (wsV RX4 56 RX4 yX4_inSlot wsX4_inSlot) := goodIn_app (goodIn_of _ (by decide +kernel)) ggX4_meanStrength_X4_inSlot
set_option maxRecDepth 20000 in
theorem ggX4_meanStrength_X4_needState : GoodIn wsX4_meanStrength wsX4_needState := goodIn_ca (goodIn_r _ [14, 15, 16] (by decide +kernel) (by decide +kernel)) (goodIn_sub (fun _ h => List.mem_cons_of_mem _ (List.mem_append_right _ h)) (by decide +kernel))
set_option maxRecDepth 20000 in
theorem gX4_meanStrength_X4_needState : GoodIn wsX4_meanStrength (va_wsS RX4 45 yX4_needState wsX4_needState) := goodIn_app (goodIn_of _ (by decide +kernel)) ggX4_meanStrength_X4_needState
set_option maxRecDepth 20000 in
theorem ggX4_meanStrength_X3_area : GoodIn wsX4_meanStrength wsX3_area := goodIn_r _ [21, 22, 23, 24, 25, 26, 27, 28, 29, 55, 56, 57, 58, 59, 60, 61, 62, 63, 64, 65, 66, 67, 68, 69, 75, 76, 77] (by decide +kernel) (by decide +kernel)
set_option maxRecDepth 20000 in
theorem gX4_meanStrength_X3_area : GoodIn wsX4_meanStrength (wsV RX4 94 RX3 yX3_area wsX3_area) := goodIn_app (goodIn_of _ (by decide +kernel)) ggX4_meanStrength_X3_area
set_option maxRecDepth 20000 in
theorem ggX4_meanStrength_X3_strengthOf : GoodIn wsX4_meanStrength wsX3_strengthOf := goodIn_r _ [33, 34, 35, 36, 37, 38, 18, 19, 20, 21, 22, 23, 24, 25, 26, 27, 28, 29, 39, 40, 41, 42, 43, 44, 7, 45, 46, 47, 48, 49, 50, 51, 52, 53, 54, 55, 56, 57, 58, 59, 60, 61, 62, 63, 64, 65, 66, 67, 68, 69, 75, 76, 77] (by decide +kernel) (by decide +kernel)
set_option maxRecDepth 20000 in
theorem gX4_meanStrength_X3_strengthOf : GoodIn wsX4_meanStrength (wsV RX4 169 RX3 yX3_strengthOf wsX3_strengthOf) := goodIn_app (goodIn_of _ (by decide +kernel)) ggX4_meanStrength_X3_strengthOf
theorem dX4_meanStrength_0 : decode cX4_meanStrength 0 = .ok (.aload_n 0, 1) := by decide +kernel
theorem dX4_meanStrength_1 : decode cX4_meanStrength 1 = .ok (.iload_n 1, 1) := by decide +kernel
theorem dX4_meanStrength_2 : decode cX4_meanStrength 2 = .ok (.invokevirtual 56, 3) := by decide +kernel
theorem dX4_meanStrength_5 : decode cX4_meanStrength 5 = .ok (.astore_n 2, 1) := by decide +kernel
theorem dX4_meanStrength_6 : decode cX4_meanStrength 6 = .ok (.aload_n 2, 1) := by decide +kernel
theorem dX4_meanStrength_7 : decode cX4_meanStrength 7 = .ok (.getfield 100, 3) := by decide +kernel
theorem dX4_meanStrength_10 : decode cX4_meanStrength 10 = .ok (.invokestatic 45, 3) := by decide +kernel
theorem dX4_meanStrength_13 : decode cX4_meanStrength 13 = .ok (.aload_n 2, 1) := by decide +kernel
theorem dX4_meanStrength_14 : decode cX4_meanStrength 14 = .ok (.invokevirtual 94, 3) := by decide +kernel
theorem dX4_meanStrength_17 : decode cX4_meanStrength 17 = .ok (.istore_n 3, 1) := by decide +kernel
theorem dX4_meanStrength_18 : decode cX4_meanStrength 18 = .ok (.iload_n 3, 1) := by decide +kernel
theorem dX4_meanStrength_19 : decode cX4_meanStrength 19 = .ok (.ifCond .le 22, 3) := by decide +kernel
theorem dX4_meanStrength_22 : decode cX4_meanStrength 22 = .ok (.aload_n 2, 1) := by decide +kernel
theorem dX4_meanStrength_23 : decode cX4_meanStrength 23 = .ok (.aload_n 2, 1) := by decide +kernel
theorem dX4_meanStrength_24 : decode cX4_meanStrength 24 = .ok (.getfield 118, 3) := by decide +kernel
theorem dX4_meanStrength_27 : decode cX4_meanStrength 27 = .ok (.aload_n 0, 1) := by decide +kernel
theorem dX4_meanStrength_28 : decode cX4_meanStrength 28 = .ok (.getfield 121, 3) := by decide +kernel
theorem dX4_meanStrength_31 : decode cX4_meanStrength 31 = .ok (.invokevirtual 169, 3) := by decide +kernel
theorem dX4_meanStrength_34 : decode cX4_meanStrength 34 = .ok (.i2d, 1) := by decide +kernel
theorem dX4_meanStrength_35 : decode cX4_meanStrength 35 = .ok (.iload_n 3, 1) := by decide +kernel
theorem dX4_meanStrength_36 : decode cX4_meanStrength 36 = .ok (.i2d, 1) := by decide +kernel
theorem dX4_meanStrength_37 : decode cX4_meanStrength 37 = .ok (.ddiv, 1) := by decide +kernel
theorem dX4_meanStrength_38 : decode cX4_meanStrength 38 = .ok (.goto 4, 3) := by decide +kernel
theorem dX4_meanStrength_41 : decode cX4_meanStrength 41 = .ok (.dconst 0, 1) := by decide +kernel
theorem dX4_meanStrength_42 : decode cX4_meanStrength 42 = .ok (.dreturn, 1) := by decide +kernel
set_option maxRecDepth 20000 in
theorem ggX4_compensated_X4_inSlot : GoodIn wsX4_compensated wsX4_inSlot := goodIn_ca (goodIn_r _ [11, 12, 13, 14, 77, 78, 79, 80, 81] (by decide +kernel) (by decide +kernel)) (goodIn_sub (fun _ h => List.mem_cons_of_mem _ (List.mem_append_left _ (List.mem_append_left _ (List.mem_append_right _ h)))) (by decide +kernel))
set_option maxRecDepth 20000 in
theorem gX4_compensated_X4_inSlot : GoodIn wsX4_compensated (wsV RX4 56 RX4 yX4_inSlot wsX4_inSlot) := goodIn_app (goodIn_of _ (by decide +kernel)) ggX4_compensated_X4_inSlot
set_option maxRecDepth 20000 in
theorem ggX4_compensated_X4_needArgument : GoodIn wsX4_compensated wsX4_needArgument := goodIn_ca (goodIn_r _ [17, 18, 19] (by decide +kernel) (by decide +kernel)) (goodIn_sub (fun _ h => List.mem_cons_of_mem _ (List.mem_append_left _ (List.mem_append_right _ h))) (by decide +kernel))
set_option maxRecDepth 20000 in
theorem gX4_compensated_X4_needArgument : GoodIn wsX4_compensated (va_wsS RX4 37 yX4_needArgument wsX4_needArgument) := goodIn_app (goodIn_of _ (by decide +kernel)) ggX4_compensated_X4_needArgument
set_option maxRecDepth 20000 in
theorem ggX4_compensated_X4_needState : GoodIn wsX4_compensated wsX4_needState := goodIn_ca (goodIn_r _ [22, 23, 24] (by decide +kernel) (by decide +kernel)) (goodIn_sub (fun _ h => List.mem_cons_of_mem _ (List.mem_append_right _ h)) (by decide +kernel))
set_option maxRecDepth 20000 in
theorem gX4_compensated_X4_needState : GoodIn wsX4_compensated (va_wsS RX4 45 yX4_needState wsX4_needState) := goodIn_app (goodIn_of _ (by decide +kernel)) ggX4_compensated_X4_needState
set_option maxRecDepth 20000 in
theorem ggX4_compensated_X3_area : GoodIn wsX4_compensated wsX3_area := goodIn_r _ [29, 30, 31, 32, 33, 34, 35, 36, 37, 62, 63, 64, 65, 66, 67, 68, 69, 70, 71, 72, 73, 74, 75, 76, 82, 83, 84] (by decide +kernel) (by decide +kernel)
set_option maxRecDepth 20000 in
theorem gX4_compensated_X3_area : GoodIn wsX4_compensated (wsV RX4 94 RX3 yX3_area wsX3_area) := goodIn_app (goodIn_of _ (by decide +kernel)) ggX4_compensated_X3_area
set_option maxRecDepth 20000 in
theorem ggX4_compensated_X3_strengthOf : GoodIn wsX4_compensated wsX3_strengthOf := goodIn_r _ [41, 42, 43, 5, 44, 45, 26, 27, 28, 29, 30, 31, 32, 33, 34, 35, 36, 37, 46, 47, 48, 49, 50, 51, 10, 52, 53, 54, 55, 56, 57, 58, 59, 60, 61, 62, 63, 64, 65, 66, 67, 68, 69, 70, 71, 72, 73, 74, 75, 76, 82, 83, 84] (by decide +kernel) (by decide +kernel)
set_option maxRecDepth 20000 in
theorem gX4_compensated_X3_strengthOf : GoodIn wsX4_compensated (wsV RX4 169 RX3 yX3_strengthOf wsX3_strengthOf) := goodIn_app (goodIn_of _ (by decide +kernel)) ggX4_compensated_X3_strengthOf
theorem dX4_compensated_0 : decode cX4_compensated 0 = .ok (.aload_n 0, 1) := by decide +kernel
theorem dX4_compensated_1 : decode cX4_compensated 1 = .ok (.iload_n 1, 1) := by decide +kernel
theorem dX4_compensated_2 : decode cX4_compensated 2 = .ok (.invokevirtual 56, 3) := by decide +kernel
theorem dX4_compensated_5 : decode cX4_compensated 5 = .ok (.astore_n 3, 1) := by decide +kernel
theorem dX4_compensated_6 : decode cX4_compensated 6 = .ok (.iload_n 2, 1) := by decide +kernel
theorem dX4_compensated_7 : decode cX4_compensated 7 = .ok (.ifCond .lt 13, 3) := by decide +kernel
theorem dX4_compensated_10 : decode cX4_compensated 10 = .ok (.iload_n 2, 1) := by decide +kernel
theorem dX4_compensated_11 : decode cX4_compensated 11 = .ok (.bipush 100, 2) := by decide +kernel
theorem dX4_compensated_13 : decode cX4_compensated 13 = .ok (.if_icmp .gt 7, 3) := by decide +kernel
theorem dX4_compensated_16 : decode cX4_compensated 16 = .ok (.iconst 1, 1) := by decide +kernel
theorem dX4_compensated_17 : decode cX4_compensated 17 = .ok (.goto 4, 3) := by decide +kernel
theorem dX4_compensated_20 : decode cX4_compensated 20 = .ok (.iconst 0, 1) := by decide +kernel
theorem dX4_compensated_21 : decode cX4_compensated 21 = .ok (.invokestatic 37, 3) := by decide +kernel
theorem dX4_compensated_24 : decode cX4_compensated 24 = .ok (.aload_n 3, 1) := by decide +kernel
theorem dX4_compensated_25 : decode cX4_compensated 25 = .ok (.getfield 100, 3) := by decide +kernel
theorem dX4_compensated_28 : decode cX4_compensated 28 = .ok (.invokestatic 45, 3) := by decide +kernel
theorem dX4_compensated_31 : decode cX4_compensated 31 = .ok (.aload_n 3, 1) := by decide +kernel
theorem dX4_compensated_32 : decode cX4_compensated 32 = .ok (.invokevirtual 94, 3) := by decide +kernel
theorem dX4_compensated_35 : decode cX4_compensated 35 = .ok (.istore 4, 2) := by decide +kernel
theorem dX4_compensated_37 : decode cX4_compensated 37 = .ok (.iconst 0, 1) := by decide +kernel
theorem dX4_compensated_38 : decode cX4_compensated 38 = .ok (.istore 5, 2) := by decide +kernel
theorem dX4_compensated_40 : decode cX4_compensated 40 = .ok (.iload_n 2, 1) := by decide +kernel
theorem dX4_compensated_41 : decode cX4_compensated 41 = .ok (.iload 4, 2) := by decide +kernel
theorem dX4_compensated_43 : decode cX4_compensated 43 = .ok (.imul, 1) := by decide +kernel
theorem dX4_compensated_44 : decode cX4_compensated 44 = .ok (.istore 6, 2) := by decide +kernel
theorem dX4_compensated_46 : decode cX4_compensated 46 = .ok (.iconst 1, 1) := by decide +kernel
theorem dX4_compensated_47 : decode cX4_compensated 47 = .ok (.istore 7, 2) := by decide +kernel
theorem dX4_compensated_49 : decode cX4_compensated 49 = .ok (.iload 7, 2) := by decide +kernel
theorem dX4_compensated_51 : decode cX4_compensated 51 = .ok (.iload 4, 2) := by decide +kernel
theorem dX4_compensated_53 : decode cX4_compensated 53 = .ok (.if_icmp .gt 44, 3) := by decide +kernel
theorem dX4_compensated_56 : decode cX4_compensated 56 = .ok (.aload_n 3, 1) := by decide +kernel
theorem dX4_compensated_57 : decode cX4_compensated 57 = .ok (.iload 7, 2) := by decide +kernel
theorem dX4_compensated_59 : decode cX4_compensated 59 = .ok (.aload_n 0, 1) := by decide +kernel
theorem dX4_compensated_60 : decode cX4_compensated 60 = .ok (.getfield 121, 3) := by decide +kernel
theorem dX4_compensated_63 : decode cX4_compensated 63 = .ok (.invokevirtual 169, 3) := by decide +kernel
theorem dX4_compensated_66 : decode cX4_compensated 66 = .ok (.iload_n 2, 1) := by decide +kernel
theorem dX4_compensated_67 : decode cX4_compensated 67 = .ok (.iload 4, 2) := by decide +kernel
theorem dX4_compensated_69 : decode cX4_compensated 69 = .ok (.imul, 1) := by decide +kernel
theorem dX4_compensated_70 : decode cX4_compensated 70 = .ok (.isub, 1) := by decide +kernel
theorem dX4_compensated_71 : decode cX4_compensated 71 = .ok (.invokestatic 172, 3) := by decide +kernel
theorem dX4_compensated_74 : decode cX4_compensated 74 = .ok (.istore 8, 2) := by decide +kernel
theorem dX4_compensated_76 : decode cX4_compensated 76 = .ok (.iload 8, 2) := by decide +kernel
theorem dX4_compensated_78 : decode cX4_compensated 78 = .ok (.iload 6, 2) := by decide +kernel
theorem dX4_compensated_80 : decode cX4_compensated 80 = .ok (.if_icmp .ge 11, 3) := by decide +kernel
theorem dX4_compensated_83 : decode cX4_compensated 83 = .ok (.iload 8, 2) := by decide +kernel
theorem dX4_compensated_85 : decode cX4_compensated 85 = .ok (.istore 6, 2) := by decide +kernel
theorem dX4_compensated_87 : decode cX4_compensated 87 = .ok (.iload 7, 2) := by decide +kernel
theorem dX4_compensated_89 : decode cX4_compensated 89 = .ok (.istore 5, 2) := by decide +kernel
theorem dX4_compensated_91 : decode cX4_compensated 91 = .ok (.iinc 7 1, 3) := by decide +kernel
theorem dX4_compensated_94 : decode cX4_compensated 94 = .ok (.goto (-45), 3) := by decide +kernel
theorem dX4_compensated_97 : decode cX4_compensated 97 = .ok (.iload 5, 2) := by decide +kernel
theorem dX4_compensated_99 : decode cX4_compensated 99 = .ok (.ireturn, 1) := by decide +kernel
set_option maxRecDepth 20000 in
theorem ggX4_period_X4_needArgument : GoodIn wsX4_period wsX4_needArgument := goodIn_ca (goodIn_r _ [5, 6, 7] (by decide +kernel) (by decide +kernel)) (goodIn_sub (fun _ h => List.mem_cons_of_mem _ (List.mem_append_left _ (List.mem_append_right _ h))) (by decide +kernel))
set_option maxRecDepth 20000 in
theorem gX4_period_X4_needArgument : GoodIn wsX4_period (va_wsS RX4 37 yX4_needArgument wsX4_needArgument) := goodIn_app (goodIn_of _ (by decide +kernel)) ggX4_period_X4_needArgument
set_option maxRecDepth 20000 in
theorem ggX4_period_X4_presentSlots : GoodIn wsX4_period wsX4_presentSlots := goodIn_r _ [11, 12, 13, 59, 60, 61, 62, 63, 64, 65, 66, 67, 68, 69, 70, 71, 72, 73, 74, 75, 76, 77, 78] (by decide +kernel) (by decide +kernel)
set_option maxRecDepth 20000 in
theorem gX4_period_X4_presentSlots : GoodIn wsX4_period (wsV RX4 177 RX4 yX4_presentSlots wsX4_presentSlots) := goodIn_app (goodIn_of _ (by decide +kernel)) ggX4_period_X4_presentSlots
set_option maxRecDepth 20000 in
theorem ggX4_period_X4_needState : GoodIn wsX4_period wsX4_needState := goodIn_ca (goodIn_r _ [16, 17, 18] (by decide +kernel) (by decide +kernel)) (goodIn_sub (fun _ h => List.mem_cons_of_mem _ (List.mem_append_right _ h)) (by decide +kernel))
set_option maxRecDepth 20000 in
theorem gX4_period_X4_needState : GoodIn wsX4_period (va_wsS RX4 45 yX4_needState wsX4_needState) := goodIn_app (goodIn_of _ (by decide +kernel)) ggX4_period_X4_needState
set_option maxRecDepth 20000 in
theorem ggX4_period_X4_findPeriod : GoodIn wsX4_period wsX4_findPeriod := goodIn_r _ [22, 1, 12, 23, 24, 25, 26, 27, 28, 29, 30, 31, 32, 33, 34, 35, 36, 4, 37, 38, 39, 40, 41, 42, 43, 44, 45, 46, 47, 48, 49, 50, 59, 60, 61, 62, 63, 64, 65, 66, 67, 68, 69, 70, 71, 72, 73, 74, 75, 76, 77, 78, 79, 80, 81] (by decide +kernel) (by decide +kernel)
set_option maxRecDepth 20000 in
theorem gX4_period_X4_findPeriod : GoodIn wsX4_period (wsV RX4 180 RX4 yX4_findPeriod wsX4_findPeriod) := goodIn_app (goodIn_of _ (by decide +kernel)) ggX4_period_X4_findPeriod
set_option maxRecDepth 20000 in
theorem ggX4_period_X2_property : GoodIn wsX4_period wsX2_property := goodIn_r _ [54, 29, 35, 34, 55, 56, 57, 27, 58, 79, 80, 81] (by decide +kernel) (by decide +kernel)
set_option maxRecDepth 20000 in
theorem gX4_period_X2_property : GoodIn wsX4_period (wsV RX4 183 RX2 yX2_property wsX2_property) := goodIn_app (goodIn_of _ (by decide +kernel)) ggX4_period_X2_property
theorem dX4_period_0 : decode cX4_period 0 = .ok (.iload_n 1, 1) := by decide +kernel
theorem dX4_period_1 : decode cX4_period 1 = .ok (.iconst 1, 1) := by decide +kernel
theorem dX4_period_2 : decode cX4_period 2 = .ok (.if_icmp .lt 13, 3) := by decide +kernel
theorem dX4_period_5 : decode cX4_period 5 = .ok (.iload_n 1, 1) := by decide +kernel
theorem dX4_period_6 : decode cX4_period 6 = .ok (.bipush 8, 2) := by decide +kernel
theorem dX4_period_8 : decode cX4_period 8 = .ok (.if_icmp .ge 7, 3) := by decide +kernel
theorem dX4_period_11 : decode cX4_period 11 = .ok (.iconst 1, 1) := by decide +kernel
theorem dX4_period_12 : decode cX4_period 12 = .ok (.goto 4, 3) := by decide +kernel
theorem dX4_period_15 : decode cX4_period 15 = .ok (.iconst 0, 1) := by decide +kernel
theorem dX4_period_16 : decode cX4_period 16 = .ok (.invokestatic 37, 3) := by decide +kernel
theorem dX4_period_19 : decode cX4_period 19 = .ok (.iload_n 2, 1) := by decide +kernel
theorem dX4_period_20 : decode cX4_period 20 = .ok (.ifCond .lt 12, 3) := by decide +kernel
theorem dX4_period_23 : decode cX4_period 23 = .ok (.iload_n 2, 1) := by decide +kernel
theorem dX4_period_24 : decode cX4_period 24 = .ok (.iconst 3, 1) := by decide +kernel
theorem dX4_period_25 : decode cX4_period 25 = .ok (.if_icmp .gt 7, 3) := by decide +kernel
theorem dX4_period_28 : decode cX4_period 28 = .ok (.iconst 1, 1) := by decide +kernel
theorem dX4_period_29 : decode cX4_period 29 = .ok (.goto 4, 3) := by decide +kernel
theorem dX4_period_32 : decode cX4_period 32 = .ok (.iconst 0, 1) := by decide +kernel
theorem dX4_period_33 : decode cX4_period 33 = .ok (.invokestatic 37, 3) := by decide +kernel
theorem dX4_period_36 : decode cX4_period 36 = .ok (.iload_n 1, 1) := by decide +kernel
theorem dX4_period_37 : decode cX4_period 37 = .ok (.aload_n 0, 1) := by decide +kernel
theorem dX4_period_38 : decode cX4_period 38 = .ok (.invokevirtual 177, 3) := by decide +kernel
theorem dX4_period_41 : decode cX4_period 41 = .ok (.iand, 1) := by decide +kernel
theorem dX4_period_42 : decode cX4_period 42 = .ok (.iload_n 1, 1) := by decide +kernel
theorem dX4_period_43 : decode cX4_period 43 = .ok (.if_icmp .ne 7, 3) := by decide +kernel
theorem dX4_period_46 : decode cX4_period 46 = .ok (.iconst 1, 1) := by decide +kernel
theorem dX4_period_47 : decode cX4_period 47 = .ok (.goto 4, 3) := by decide +kernel
theorem dX4_period_50 : decode cX4_period 50 = .ok (.iconst 0, 1) := by decide +kernel
theorem dX4_period_51 : decode cX4_period 51 = .ok (.invokestatic 45, 3) := by decide +kernel
theorem dX4_period_54 : decode cX4_period 54 = .ok (.aload_n 0, 1) := by decide +kernel
theorem dX4_period_55 : decode cX4_period 55 = .ok (.iload_n 1, 1) := by decide +kernel
theorem dX4_period_56 : decode cX4_period 56 = .ok (.invokevirtual 180, 3) := by decide +kernel
theorem dX4_period_59 : decode cX4_period 59 = .ok (.aload_n 0, 1) := by decide +kernel
theorem dX4_period_60 : decode cX4_period 60 = .ok (.getfield 32, 3) := by decide +kernel
theorem dX4_period_63 : decode cX4_period 63 = .ok (.iload_n 2, 1) := by decide +kernel
theorem dX4_period_64 : decode cX4_period 64 = .ok (.invokevirtual 183, 3) := by decide +kernel
theorem dX4_period_67 : decode cX4_period 67 = .ok (.ireturn, 1) := by decide +kernel
set_option maxRecDepth 20000 in
theorem ggX4_beat_X4_inSlot : GoodIn wsX4_beat wsX4_inSlot := goodIn_ca (goodIn_r _ [8, 9, 10, 11, 76, 77, 78, 79, 80] (by decide +kernel) (by decide +kernel)) (goodIn_sub (fun _ h => List.mem_cons_of_mem _ (List.mem_append_left _ (List.mem_append_left _ (List.mem_append_right _ h)))) (by decide +kernel))
set_option maxRecDepth 20000 in
theorem gX4_beat_X4_inSlot : GoodIn wsX4_beat (wsV RX4 56 RX4 yX4_inSlot wsX4_inSlot) := goodIn_app (goodIn_of _ (by decide +kernel)) ggX4_beat_X4_inSlot
set_option maxRecDepth 20000 in
theorem ggX4_beat_X4_needArgument : GoodIn wsX4_beat wsX4_needArgument := goodIn_ca (goodIn_r _ [14, 15, 16] (by decide +kernel) (by decide +kernel)) (goodIn_sub (fun _ h => List.mem_cons_of_mem _ (List.mem_append_left _ (List.mem_append_right _ h))) (by decide +kernel))
set_option maxRecDepth 20000 in
theorem gX4_beat_X4_needArgument : GoodIn wsX4_beat (va_wsS RX4 37 yX4_needArgument wsX4_needArgument) := goodIn_app (goodIn_of _ (by decide +kernel)) ggX4_beat_X4_needArgument
set_option maxRecDepth 20000 in
theorem ggX4_beat_X4_needState : GoodIn wsX4_beat wsX4_needState := goodIn_ca (goodIn_r _ [19, 20, 21] (by decide +kernel) (by decide +kernel)) (goodIn_sub (fun _ h => List.mem_cons_of_mem _ (List.mem_append_right _ h)) (by decide +kernel))
set_option maxRecDepth 20000 in
theorem gX4_beat_X4_needState : GoodIn wsX4_beat (va_wsS RX4 45 yX4_needState wsX4_needState) := goodIn_app (goodIn_of _ (by decide +kernel)) ggX4_beat_X4_needState
set_option maxRecDepth 20000 in
theorem ggX4_beat_X2_become : GoodIn wsX4_beat wsX2_become := goodIn_r _ [26, 27, 28, 29, 81, 82, 83] (by decide +kernel) (by decide +kernel)
set_option maxRecDepth 20000 in
theorem gX4_beat_X2_become : GoodIn wsX4_beat (wsV RX4 184 RX2 yX2_become wsX2_become) := goodIn_app (goodIn_of _ (by decide +kernel)) ggX4_beat_X2_become
set_option maxRecDepth 20000 in
theorem ggX4_beat_X2_addAll : GoodIn wsX4_beat wsX2_addAll := goodIn_r _ [33, 28, 29, 27, 34, 7, 35, 36, 37, 38, 39, 40, 41, 42, 25, 43, 44, 45, 46, 47, 48, 49, 50, 51, 52, 81, 82, 83] (by decide +kernel) (by decide +kernel)
set_option maxRecDepth 20000 in
theorem gX4_beat_X2_addAll : GoodIn wsX4_beat (wsV RX4 187 RX2 yX2_addAll wsX2_addAll) := goodIn_app (goodIn_of _ (by decide +kernel)) ggX4_beat_X2_addAll
set_option maxRecDepth 20000 in
theorem ggX4_beat_X2_property : GoodIn wsX4_beat wsX2_property := goodIn_r _ [56, 27, 28, 29, 57, 58, 59, 25, 60, 81, 82, 83] (by decide +kernel) (by decide +kernel)
set_option maxRecDepth 20000 in
theorem gX4_beat_X2_property : GoodIn wsX4_beat (wsV RX4 183 RX2 yX2_property wsX2_property) := goodIn_app (goodIn_of _ (by decide +kernel)) ggX4_beat_X2_property
theorem dX4_beat_0 : decode cX4_beat 0 = .ok (.aload_n 0, 1) := by decide +kernel
theorem dX4_beat_1 : decode cX4_beat 1 = .ok (.iload_n 1, 1) := by decide +kernel
theorem dX4_beat_2 : decode cX4_beat 2 = .ok (.invokevirtual 56, 3) := by decide +kernel
theorem dX4_beat_5 : decode cX4_beat 5 = .ok (.astore 4, 2) := by decide +kernel
theorem dX4_beat_7 : decode cX4_beat 7 = .ok (.aload_n 0, 1) := by decide +kernel
theorem dX4_beat_8 : decode cX4_beat 8 = .ok (.iload_n 2, 1) := by decide +kernel
theorem dX4_beat_9 : decode cX4_beat 9 = .ok (.invokevirtual 56, 3) := by decide +kernel
theorem dX4_beat_12 : decode cX4_beat 12 = .ok (.astore 5, 2) := by decide +kernel
theorem dX4_beat_14 : decode cX4_beat 14 = .ok (.iload_n 3, 1) := by decide +kernel
theorem dX4_beat_15 : decode cX4_beat 15 = .ok (.ifCond .lt 12, 3) := by decide +kernel
theorem dX4_beat_18 : decode cX4_beat 18 = .ok (.iload_n 3, 1) := by decide +kernel
theorem dX4_beat_19 : decode cX4_beat 19 = .ok (.iconst 3, 1) := by decide +kernel
theorem dX4_beat_20 : decode cX4_beat 20 = .ok (.if_icmp .gt 7, 3) := by decide +kernel
theorem dX4_beat_23 : decode cX4_beat 23 = .ok (.iconst 1, 1) := by decide +kernel
theorem dX4_beat_24 : decode cX4_beat 24 = .ok (.goto 4, 3) := by decide +kernel
theorem dX4_beat_27 : decode cX4_beat 27 = .ok (.iconst 0, 1) := by decide +kernel
theorem dX4_beat_28 : decode cX4_beat 28 = .ok (.invokestatic 37, 3) := by decide +kernel
theorem dX4_beat_31 : decode cX4_beat 31 = .ok (.aload 4, 2) := by decide +kernel
theorem dX4_beat_33 : decode cX4_beat 33 = .ok (.getfield 100, 3) := by decide +kernel
theorem dX4_beat_36 : decode cX4_beat 36 = .ok (.ifCond .eq 15, 3) := by decide +kernel
theorem dX4_beat_39 : decode cX4_beat 39 = .ok (.aload 5, 2) := by decide +kernel
theorem dX4_beat_41 : decode cX4_beat 41 = .ok (.getfield 100, 3) := by decide +kernel
theorem dX4_beat_44 : decode cX4_beat 44 = .ok (.ifCond .eq 7, 3) := by decide +kernel
theorem dX4_beat_47 : decode cX4_beat 47 = .ok (.iconst 1, 1) := by decide +kernel
theorem dX4_beat_48 : decode cX4_beat 48 = .ok (.goto 4, 3) := by decide +kernel
theorem dX4_beat_51 : decode cX4_beat 51 = .ok (.iconst 0, 1) := by decide +kernel
theorem dX4_beat_52 : decode cX4_beat 52 = .ok (.invokestatic 45, 3) := by decide +kernel
theorem dX4_beat_55 : decode cX4_beat 55 = .ok (.aload_n 0, 1) := by decide +kernel
theorem dX4_beat_56 : decode cX4_beat 56 = .ok (.getfield 32, 3) := by decide +kernel
theorem dX4_beat_59 : decode cX4_beat 59 = .ok (.aload 4, 2) := by decide +kernel
theorem dX4_beat_61 : decode cX4_beat 61 = .ok (.getfield 130, 3) := by decide +kernel
theorem dX4_beat_64 : decode cX4_beat 64 = .ok (.invokevirtual 184, 3) := by decide +kernel
theorem dX4_beat_67 : decode cX4_beat 67 = .ok (.aload_n 0, 1) := by decide +kernel
theorem dX4_beat_68 : decode cX4_beat 68 = .ok (.getfield 32, 3) := by decide +kernel
theorem dX4_beat_71 : decode cX4_beat 71 = .ok (.aload 5, 2) := by decide +kernel
theorem dX4_beat_73 : decode cX4_beat 73 = .ok (.getfield 130, 3) := by decide +kernel
theorem dX4_beat_76 : decode cX4_beat 76 = .ok (.invokevirtual 187, 3) := by decide +kernel
theorem dX4_beat_79 : decode cX4_beat 79 = .ok (.aload_n 0, 1) := by decide +kernel
theorem dX4_beat_80 : decode cX4_beat 80 = .ok (.getfield 32, 3) := by decide +kernel
theorem dX4_beat_83 : decode cX4_beat 83 = .ok (.iload_n 3, 1) := by decide +kernel
theorem dX4_beat_84 : decode cX4_beat 84 = .ok (.invokevirtual 183, 3) := by decide +kernel
theorem dX4_beat_87 : decode cX4_beat 87 = .ok (.ireturn, 1) := by decide +kernel
set_option maxRecDepth 20000 in
theorem ggX4_mixture_X4_needArgument : GoodIn wsX4_mixture wsX4_needArgument := goodIn_ca (goodIn_r _ [7, 8, 9] (by decide +kernel) (by decide +kernel)) (goodIn_sub (fun _ h => List.mem_cons_of_mem _ (List.mem_append_left _ (List.mem_append_right _ h))) (by decide +kernel))
set_option maxRecDepth 20000 in
theorem gX4_mixture_X4_needArgument : GoodIn wsX4_mixture (va_wsS RX4 37 yX4_needArgument wsX4_needArgument) := goodIn_app (goodIn_of _ (by decide +kernel)) ggX4_mixture_X4_needArgument
set_option maxRecDepth 20000 in
theorem ggX4_mixture_X4_presentSlots : GoodIn wsX4_mixture wsX4_presentSlots := goodIn_r _ [13, 14, 15, 84, 85, 86, 87, 88, 92, 93, 94, 95, 96, 97, 98, 99, 100, 101, 102, 103, 104, 105, 106] (by decide +kernel) (by decide +kernel)
set_option maxRecDepth 20000 in
theorem gX4_mixture_X4_presentSlots : GoodIn wsX4_mixture (wsV RX4 177 RX4 yX4_presentSlots wsX4_presentSlots) := goodIn_app (goodIn_of _ (by decide +kernel)) ggX4_mixture_X4_presentSlots
set_option maxRecDepth 20000 in
theorem ggX4_mixture_X4_needState : GoodIn wsX4_mixture wsX4_needState := goodIn_ca (goodIn_r _ [18, 19, 20] (by decide +kernel) (by decide +kernel)) (goodIn_sub (fun _ h => List.mem_cons_of_mem _ (List.mem_append_right _ h)) (by decide +kernel))
set_option maxRecDepth 20000 in
theorem gX4_mixture_X4_needState : GoodIn wsX4_mixture (va_wsS RX4 45 yX4_needState wsX4_needState) := goodIn_app (goodIn_of _ (by decide +kernel)) ggX4_mixture_X4_needState
set_option maxRecDepth 20000 in
theorem ggX4_mixture_X4_findPeriod : GoodIn wsX4_mixture wsX4_findPeriod := goodIn_r _ [24, 1, 14, 25, 26, 27, 28, 29, 30, 31, 32, 33, 34, 35, 36, 37, 38, 6, 39, 40, 41, 42, 43, 44, 45, 46, 47, 48, 49, 50, 51, 52, 84, 85, 86, 87, 88, 92, 93, 94, 95, 96, 97, 98, 99, 100, 101, 102, 103, 104, 105, 106, 89, 90, 91] (by decide +kernel) (by decide +kernel)
set_option maxRecDepth 20000 in
theorem gX4_mixture_X4_findPeriod : GoodIn wsX4_mixture (wsV RX4 180 RX4 yX4_findPeriod wsX4_findPeriod) := goodIn_app (goodIn_of _ (by decide +kernel)) ggX4_mixture_X4_findPeriod
set_option maxRecDepth 20000 in
theorem ggX4_mixture_X2_area : GoodIn wsX4_mixture wsX2_area := goodIn_r _ [56, 31, 36, 89, 90, 91] (by decide +kernel) (by decide +kernel)
set_option maxRecDepth 20000 in
theorem gX4_mixture_X2_area : GoodIn wsX4_mixture (wsV RX4 190 RX2 yX2_area wsX2_area) := goodIn_app (goodIn_of _ (by decide +kernel)) ggX4_mixture_X2_area
set_option maxRecDepth 20000 in
theorem ggX4_mixture_X4_inksOf : GoodIn wsX4_mixture wsX4_inksOf := goodIn_r _ [60, 14, 15, 61, 62, 63, 64, 65, 66, 67, 68, 69, 70, 29, 71, 36, 31, 37, 72, 6, 73, 74, 75, 47, 76, 43, 44, 45, 46, 48, 77, 78, 79, 80, 81, 82, 83, 84, 85, 86, 87, 88, 92, 93, 94, 95, 96, 97, 98, 99, 100, 101, 102, 103, 104, 105, 106, 89, 90, 91] (by decide +kernel) (by decide +kernel)
set_option maxRecDepth 20000 in
theorem gX4_mixture_X4_inksOf : GoodIn wsX4_mixture (wsV RX4 149 RX4 yX4_inksOf wsX4_inksOf) := goodIn_app (goodIn_of _ (by decide +kernel)) ggX4_mixture_X4_inksOf
theorem dX4_mixture_0 : decode cX4_mixture 0 = .ok (.iload_n 1, 1) := by decide +kernel
theorem dX4_mixture_1 : decode cX4_mixture 1 = .ok (.ifCond .lt 13, 3) := by decide +kernel
theorem dX4_mixture_4 : decode cX4_mixture 4 = .ok (.iload_n 1, 1) := by decide +kernel
theorem dX4_mixture_5 : decode cX4_mixture 5 = .ok (.bipush 8, 2) := by decide +kernel
theorem dX4_mixture_7 : decode cX4_mixture 7 = .ok (.if_icmp .ge 7, 3) := by decide +kernel
theorem dX4_mixture_10 : decode cX4_mixture 10 = .ok (.iconst 1, 1) := by decide +kernel
theorem dX4_mixture_11 : decode cX4_mixture 11 = .ok (.goto 4, 3) := by decide +kernel
theorem dX4_mixture_14 : decode cX4_mixture 14 = .ok (.iconst 0, 1) := by decide +kernel
theorem dX4_mixture_15 : decode cX4_mixture 15 = .ok (.invokestatic 37, 3) := by decide +kernel
theorem dX4_mixture_18 : decode cX4_mixture 18 = .ok (.aload_n 0, 1) := by decide +kernel
theorem dX4_mixture_19 : decode cX4_mixture 19 = .ok (.invokevirtual 177, 3) := by decide +kernel
theorem dX4_mixture_22 : decode cX4_mixture 22 = .ok (.istore_n 2, 1) := by decide +kernel
theorem dX4_mixture_23 : decode cX4_mixture 23 = .ok (.iload_n 2, 1) := by decide +kernel
theorem dX4_mixture_24 : decode cX4_mixture 24 = .ok (.ifCond .eq 7, 3) := by decide +kernel
theorem dX4_mixture_27 : decode cX4_mixture 27 = .ok (.iconst 1, 1) := by decide +kernel
theorem dX4_mixture_28 : decode cX4_mixture 28 = .ok (.goto 4, 3) := by decide +kernel
theorem dX4_mixture_31 : decode cX4_mixture 31 = .ok (.iconst 0, 1) := by decide +kernel
theorem dX4_mixture_32 : decode cX4_mixture 32 = .ok (.invokestatic 45, 3) := by decide +kernel
theorem dX4_mixture_35 : decode cX4_mixture 35 = .ok (.aload_n 0, 1) := by decide +kernel
theorem dX4_mixture_36 : decode cX4_mixture 36 = .ok (.iload_n 2, 1) := by decide +kernel
theorem dX4_mixture_37 : decode cX4_mixture 37 = .ok (.invokevirtual 180, 3) := by decide +kernel
theorem dX4_mixture_40 : decode cX4_mixture 40 = .ok (.aload_n 0, 1) := by decide +kernel
theorem dX4_mixture_41 : decode cX4_mixture 41 = .ok (.getfield 32, 3) := by decide +kernel
theorem dX4_mixture_44 : decode cX4_mixture 44 = .ok (.invokevirtual 190, 3) := by decide +kernel
theorem dX4_mixture_47 : decode cX4_mixture 47 = .ok (.sipush 4096, 3) := by decide +kernel
theorem dX4_mixture_50 : decode cX4_mixture 50 = .ok (.if_icmp .gt 7, 3) := by decide +kernel
theorem dX4_mixture_53 : decode cX4_mixture 53 = .ok (.iconst 1, 1) := by decide +kernel
theorem dX4_mixture_54 : decode cX4_mixture 54 = .ok (.goto 4, 3) := by decide +kernel
theorem dX4_mixture_57 : decode cX4_mixture 57 = .ok (.iconst 0, 1) := by decide +kernel
theorem dX4_mixture_58 : decode cX4_mixture 58 = .ok (.invokestatic 45, 3) := by decide +kernel
theorem dX4_mixture_61 : decode cX4_mixture 61 = .ok (.iconst 0, 1) := by decide +kernel
theorem dX4_mixture_62 : decode cX4_mixture 62 = .ok (.istore_n 3, 1) := by decide +kernel
theorem dX4_mixture_63 : decode cX4_mixture 63 = .ok (.iconst 0, 1) := by decide +kernel
theorem dX4_mixture_64 : decode cX4_mixture 64 = .ok (.istore 4, 2) := by decide +kernel
theorem dX4_mixture_66 : decode cX4_mixture 66 = .ok (.iload 4, 2) := by decide +kernel
theorem dX4_mixture_68 : decode cX4_mixture 68 = .ok (.aload_n 0, 1) := by decide +kernel
theorem dX4_mixture_69 : decode cX4_mixture 69 = .ok (.getfield 32, 3) := by decide +kernel
theorem dX4_mixture_72 : decode cX4_mixture 72 = .ok (.getfield 191, 3) := by decide +kernel
theorem dX4_mixture_75 : decode cX4_mixture 75 = .ok (.if_icmp .ge 45, 3) := by decide +kernel
theorem dX4_mixture_78 : decode cX4_mixture 78 = .ok (.iconst 0, 1) := by decide +kernel
theorem dX4_mixture_79 : decode cX4_mixture 79 = .ok (.istore 5, 2) := by decide +kernel
theorem dX4_mixture_81 : decode cX4_mixture 81 = .ok (.iload 5, 2) := by decide +kernel
theorem dX4_mixture_83 : decode cX4_mixture 83 = .ok (.aload_n 0, 1) := by decide +kernel
theorem dX4_mixture_84 : decode cX4_mixture 84 = .ok (.getfield 32, 3) := by decide +kernel
theorem dX4_mixture_87 : decode cX4_mixture 87 = .ok (.getfield 194, 3) := by decide +kernel
theorem dX4_mixture_90 : decode cX4_mixture 90 = .ok (.if_icmp .ge 24, 3) := by decide +kernel
theorem dX4_mixture_93 : decode cX4_mixture 93 = .ok (.aload_n 0, 1) := by decide +kernel
theorem dX4_mixture_94 : decode cX4_mixture 94 = .ok (.iload 5, 2) := by decide +kernel
theorem dX4_mixture_96 : decode cX4_mixture 96 = .ok (.iload 4, 2) := by decide +kernel
theorem dX4_mixture_98 : decode cX4_mixture 98 = .ok (.invokevirtual 149, 3) := by decide +kernel
theorem dX4_mixture_101 : decode cX4_mixture 101 = .ok (.iload_n 1, 1) := by decide +kernel
theorem dX4_mixture_102 : decode cX4_mixture 102 = .ok (.if_icmp .ne 6, 3) := by decide +kernel
theorem dX4_mixture_105 : decode cX4_mixture 105 = .ok (.iinc 3 1, 3) := by decide +kernel
theorem dX4_mixture_108 : decode cX4_mixture 108 = .ok (.iinc 5 1, 3) := by decide +kernel
theorem dX4_mixture_111 : decode cX4_mixture 111 = .ok (.goto (-30), 3) := by decide +kernel
theorem dX4_mixture_114 : decode cX4_mixture 114 = .ok (.iinc 4 1, 3) := by decide +kernel
theorem dX4_mixture_117 : decode cX4_mixture 117 = .ok (.goto (-51), 3) := by decide +kernel
theorem dX4_mixture_120 : decode cX4_mixture 120 = .ok (.iload_n 3, 1) := by decide +kernel
theorem dX4_mixture_121 : decode cX4_mixture 121 = .ok (.ireturn, 1) := by decide +kernel
set_option maxRecDepth 20000 in
theorem ggX4_nearest_X4_needArgument : GoodIn wsX4_nearest wsX4_needArgument := goodIn_ca (goodIn_r _ [8, 9, 10] (by decide +kernel) (by decide +kernel)) (goodIn_sub (fun _ h => List.mem_cons_of_mem _ (List.mem_append_right _ h)) (by decide +kernel))
set_option maxRecDepth 20000 in
theorem gX4_nearest_X4_needArgument : GoodIn wsX4_nearest (va_wsS RX4 37 yX4_needArgument wsX4_needArgument) := goodIn_app (goodIn_of _ (by decide +kernel)) ggX4_nearest_X4_needArgument
set_option maxRecDepth 20000 in
theorem ggX4_nearest_X4_isNearer : GoodIn wsX4_nearest wsX4_isNearer := goodIn_r _ [13, 1, 2, 3, 4] (by decide +kernel) (by decide +kernel)
set_option maxRecDepth 20000 in
theorem gX4_nearest_X4_isNearer : GoodIn wsX4_nearest (va_wsS RX4 197 yX4_isNearer wsX4_isNearer) := goodIn_app (goodIn_of _ (by decide +kernel)) ggX4_nearest_X4_isNearer
theorem dX4_nearest_0 : decode cX4_nearest 0 = .ok (.iload_n 1, 1) := by decide +kernel
theorem dX4_nearest_1 : decode cX4_nearest 1 = .ok (.ifCond .lt 26, 3) := by decide +kernel
theorem dX4_nearest_4 : decode cX4_nearest 4 = .ok (.iload_n 1, 1) := by decide +kernel
theorem dX4_nearest_5 : decode cX4_nearest 5 = .ok (.sipush 1000, 3) := by decide +kernel
theorem dX4_nearest_8 : decode cX4_nearest 8 = .ok (.if_icmp .gt 19, 3) := by decide +kernel
theorem dX4_nearest_11 : decode cX4_nearest 11 = .ok (.iload_n 2, 1) := by decide +kernel
theorem dX4_nearest_12 : decode cX4_nearest 12 = .ok (.iconst 1, 1) := by decide +kernel
theorem dX4_nearest_13 : decode cX4_nearest 13 = .ok (.if_icmp .lt 14, 3) := by decide +kernel
theorem dX4_nearest_16 : decode cX4_nearest 16 = .ok (.iload_n 2, 1) := by decide +kernel
theorem dX4_nearest_17 : decode cX4_nearest 17 = .ok (.sipush 1000, 3) := by decide +kernel
theorem dX4_nearest_20 : decode cX4_nearest 20 = .ok (.if_icmp .gt 7, 3) := by decide +kernel
theorem dX4_nearest_23 : decode cX4_nearest 23 = .ok (.iconst 1, 1) := by decide +kernel
theorem dX4_nearest_24 : decode cX4_nearest 24 = .ok (.goto 4, 3) := by decide +kernel
theorem dX4_nearest_27 : decode cX4_nearest 27 = .ok (.iconst 0, 1) := by decide +kernel
theorem dX4_nearest_28 : decode cX4_nearest 28 = .ok (.invokestatic 37, 3) := by decide +kernel
theorem dX4_nearest_31 : decode cX4_nearest 31 = .ok (.iload_n 3, 1) := by decide +kernel
theorem dX4_nearest_32 : decode cX4_nearest 32 = .ok (.iconst 1, 1) := by decide +kernel
theorem dX4_nearest_33 : decode cX4_nearest 33 = .ok (.if_icmp .lt 25, 3) := by decide +kernel
theorem dX4_nearest_36 : decode cX4_nearest 36 = .ok (.iload_n 3, 1) := by decide +kernel
theorem dX4_nearest_37 : decode cX4_nearest 37 = .ok (.sipush 128, 3) := by decide +kernel
theorem dX4_nearest_40 : decode cX4_nearest 40 = .ok (.if_icmp .gt 18, 3) := by decide +kernel
theorem dX4_nearest_43 : decode cX4_nearest 43 = .ok (.iload 4, 2) := by decide +kernel
theorem dX4_nearest_45 : decode cX4_nearest 45 = .ok (.ifCond .lt 13, 3) := by decide +kernel
theorem dX4_nearest_48 : decode cX4_nearest 48 = .ok (.iload 4, 2) := by decide +kernel
theorem dX4_nearest_50 : decode cX4_nearest 50 = .ok (.iconst 2, 1) := by decide +kernel
theorem dX4_nearest_51 : decode cX4_nearest 51 = .ok (.if_icmp .gt 7, 3) := by decide +kernel
theorem dX4_nearest_54 : decode cX4_nearest 54 = .ok (.iconst 1, 1) := by decide +kernel
theorem dX4_nearest_55 : decode cX4_nearest 55 = .ok (.goto 4, 3) := by decide +kernel
theorem dX4_nearest_58 : decode cX4_nearest 58 = .ok (.iconst 0, 1) := by decide +kernel
theorem dX4_nearest_59 : decode cX4_nearest 59 = .ok (.invokestatic 37, 3) := by decide +kernel
theorem dX4_nearest_62 : decode cX4_nearest 62 = .ok (.iconst 1, 1) := by decide +kernel
theorem dX4_nearest_63 : decode cX4_nearest 63 = .ok (.istore 5, 2) := by decide +kernel
theorem dX4_nearest_65 : decode cX4_nearest 65 = .ok (.iconst 0, 1) := by decide +kernel
theorem dX4_nearest_66 : decode cX4_nearest 66 = .ok (.istore 6, 2) := by decide +kernel
theorem dX4_nearest_68 : decode cX4_nearest 68 = .ok (.iconst 1, 1) := by decide +kernel
theorem dX4_nearest_69 : decode cX4_nearest 69 = .ok (.istore 7, 2) := by decide +kernel
theorem dX4_nearest_71 : decode cX4_nearest 71 = .ok (.iload 7, 2) := by decide +kernel
theorem dX4_nearest_73 : decode cX4_nearest 73 = .ok (.bipush 8, 2) := by decide +kernel
theorem dX4_nearest_75 : decode cX4_nearest 75 = .ok (.if_icmp .gt 64, 3) := by decide +kernel
theorem dX4_nearest_78 : decode cX4_nearest 78 = .ok (.iconst 0, 1) := by decide +kernel
theorem dX4_nearest_79 : decode cX4_nearest 79 = .ok (.istore 8, 2) := by decide +kernel
theorem dX4_nearest_81 : decode cX4_nearest 81 = .ok (.iload 8, 2) := by decide +kernel
theorem dX4_nearest_83 : decode cX4_nearest 83 = .ok (.bipush 8, 2) := by decide +kernel
theorem dX4_nearest_85 : decode cX4_nearest 85 = .ok (.if_icmp .gt 48, 3) := by decide +kernel
theorem dX4_nearest_88 : decode cX4_nearest 88 = .ok (.iload 7, 2) := by decide +kernel
theorem dX4_nearest_90 : decode cX4_nearest 90 = .ok (.iload 7, 2) := by decide +kernel
theorem dX4_nearest_92 : decode cX4_nearest 92 = .ok (.imul, 1) := by decide +kernel
theorem dX4_nearest_93 : decode cX4_nearest 93 = .ok (.iload 8, 2) := by decide +kernel
theorem dX4_nearest_95 : decode cX4_nearest 95 = .ok (.iload 8, 2) := by decide +kernel
theorem dX4_nearest_97 : decode cX4_nearest 97 = .ok (.imul, 1) := by decide +kernel
theorem dX4_nearest_98 : decode cX4_nearest 98 = .ok (.iadd, 1) := by decide +kernel
theorem dX4_nearest_99 : decode cX4_nearest 99 = .ok (.iload_n 3, 1) := by decide +kernel
theorem dX4_nearest_100 : decode cX4_nearest 100 = .ok (.if_icmp .gt 27, 3) := by decide +kernel
theorem dX4_nearest_103 : decode cX4_nearest 103 = .ok (.iload 7, 2) := by decide +kernel
theorem dX4_nearest_105 : decode cX4_nearest 105 = .ok (.iload 8, 2) := by decide +kernel
theorem dX4_nearest_107 : decode cX4_nearest 107 = .ok (.iload 5, 2) := by decide +kernel
theorem dX4_nearest_109 : decode cX4_nearest 109 = .ok (.iload 6, 2) := by decide +kernel
theorem dX4_nearest_111 : decode cX4_nearest 111 = .ok (.iload_n 1, 1) := by decide +kernel
theorem dX4_nearest_112 : decode cX4_nearest 112 = .ok (.iload_n 2, 1) := by decide +kernel
theorem dX4_nearest_113 : decode cX4_nearest 113 = .ok (.invokestatic 197, 3) := by decide +kernel
theorem dX4_nearest_116 : decode cX4_nearest 116 = .ok (.ifCond .eq 11, 3) := by decide +kernel
theorem dX4_nearest_119 : decode cX4_nearest 119 = .ok (.iload 7, 2) := by decide +kernel
theorem dX4_nearest_121 : decode cX4_nearest 121 = .ok (.istore 5, 2) := by decide +kernel
theorem dX4_nearest_123 : decode cX4_nearest 123 = .ok (.iload 8, 2) := by decide +kernel
theorem dX4_nearest_125 : decode cX4_nearest 125 = .ok (.istore 6, 2) := by decide +kernel
theorem dX4_nearest_127 : decode cX4_nearest 127 = .ok (.iinc 8 1, 3) := by decide +kernel
theorem dX4_nearest_130 : decode cX4_nearest 130 = .ok (.goto (-49), 3) := by decide +kernel
theorem dX4_nearest_133 : decode cX4_nearest 133 = .ok (.iinc 7 1, 3) := by decide +kernel
theorem dX4_nearest_136 : decode cX4_nearest 136 = .ok (.goto (-65), 3) := by decide +kernel
theorem dX4_nearest_139 : decode cX4_nearest 139 = .ok (.iload 4, 2) := by decide +kernel
theorem dX4_nearest_141 : decode cX4_nearest 141 = .ok (.iconst 2, 1) := by decide +kernel
theorem dX4_nearest_142 : decode cX4_nearest 142 = .ok (.if_icmp .ne 16, 3) := by decide +kernel
theorem dX4_nearest_145 : decode cX4_nearest 145 = .ok (.iload 5, 2) := by decide +kernel
theorem dX4_nearest_147 : decode cX4_nearest 147 = .ok (.iload_n 1, 1) := by decide +kernel
theorem dX4_nearest_148 : decode cX4_nearest 148 = .ok (.imul, 1) := by decide +kernel
theorem dX4_nearest_149 : decode cX4_nearest 149 = .ok (.iload 6, 2) := by decide +kernel
theorem dX4_nearest_151 : decode cX4_nearest 151 = .ok (.iload_n 2, 1) := by decide +kernel
theorem dX4_nearest_152 : decode cX4_nearest 152 = .ok (.imul, 1) := by decide +kernel
theorem dX4_nearest_153 : decode cX4_nearest 153 = .ok (.isub, 1) := by decide +kernel
theorem dX4_nearest_154 : decode cX4_nearest 154 = .ok (.invokestatic 172, 3) := by decide +kernel
theorem dX4_nearest_157 : decode cX4_nearest 157 = .ok (.ireturn, 1) := by decide +kernel
theorem dX4_nearest_158 : decode cX4_nearest 158 = .ok (.iload 4, 2) := by decide +kernel
theorem dX4_nearest_160 : decode cX4_nearest 160 = .ok (.ifCond .ne 8, 3) := by decide +kernel
theorem dX4_nearest_163 : decode cX4_nearest 163 = .ok (.iload 5, 2) := by decide +kernel
theorem dX4_nearest_165 : decode cX4_nearest 165 = .ok (.goto 5, 3) := by decide +kernel
theorem dX4_nearest_168 : decode cX4_nearest 168 = .ok (.iload 6, 2) := by decide +kernel
theorem dX4_nearest_170 : decode cX4_nearest 170 = .ok (.ireturn, 1) := by decide +kernel
set_option maxRecDepth 20000 in
theorem ggX4_count_X4_needArgument : GoodIn wsX4_count wsX4_needArgument := goodIn_ca (goodIn_r _ [10, 11, 12] (by decide +kernel) (by decide +kernel)) (goodIn_sub (fun _ h => List.mem_cons_of_mem _ (List.mem_append_right _ h)) (by decide +kernel))
set_option maxRecDepth 20000 in
theorem gX4_count_X4_needArgument : GoodIn wsX4_count (va_wsS RX4 37 yX4_needArgument wsX4_needArgument) := goodIn_app (goodIn_of _ (by decide +kernel)) ggX4_count_X4_needArgument
set_option maxRecDepth 20000 in
theorem ggX4_count_X3_area : GoodIn wsX4_count wsX3_area := goodIn_r _ [17, 18, 19, 20, 21, 22, 23, 24, 25, 39, 40, 41, 42, 43, 44, 45, 46, 47, 48, 49, 50, 51, 52, 53, 54, 55, 56] (by decide +kernel) (by decide +kernel)
set_option maxRecDepth 20000 in
theorem gX4_count_X3_area : GoodIn wsX4_count (wsV RX4 94 RX3 yX3_area wsX3_area) := goodIn_app (goodIn_of _ (by decide +kernel)) ggX4_count_X3_area
theorem dX4_count_0 : decode cX4_count 0 = .ok (.iload_n 1, 1) := by decide +kernel
theorem dX4_count_1 : decode cX4_count 1 = .ok (.ifCond .lt 12, 3) := by decide +kernel
theorem dX4_count_4 : decode cX4_count 4 = .ok (.iload_n 1, 1) := by decide +kernel
theorem dX4_count_5 : decode cX4_count 5 = .ok (.iconst 4, 1) := by decide +kernel
theorem dX4_count_6 : decode cX4_count 6 = .ok (.if_icmp .gt 7, 3) := by decide +kernel
theorem dX4_count_9 : decode cX4_count 9 = .ok (.iconst 1, 1) := by decide +kernel
theorem dX4_count_10 : decode cX4_count 10 = .ok (.goto 4, 3) := by decide +kernel
theorem dX4_count_13 : decode cX4_count 13 = .ok (.iconst 0, 1) := by decide +kernel
theorem dX4_count_14 : decode cX4_count 14 = .ok (.invokestatic 37, 3) := by decide +kernel
theorem dX4_count_17 : decode cX4_count 17 = .ok (.iload_n 1, 1) := by decide +kernel
theorem dX4_count_18 : decode cX4_count 18 = .ok (.iconst 3, 1) := by decide +kernel
theorem dX4_count_19 : decode cX4_count 19 = .ok (.if_icmp .ne 8, 3) := by decide +kernel
theorem dX4_count_22 : decode cX4_count 22 = .ok (.aload_n 0, 1) := by decide +kernel
theorem dX4_count_23 : decode cX4_count 23 = .ok (.getfield 121, 3) := by decide +kernel
theorem dX4_count_26 : decode cX4_count 26 = .ok (.ireturn, 1) := by decide +kernel
theorem dX4_count_27 : decode cX4_count 27 = .ok (.iload_n 1, 1) := by decide +kernel
theorem dX4_count_28 : decode cX4_count 28 = .ok (.iconst 4, 1) := by decide +kernel
theorem dX4_count_29 : decode cX4_count 29 = .ok (.if_icmp .ne 11, 3) := by decide +kernel
theorem dX4_count_32 : decode cX4_count 32 = .ok (.aload_n 0, 1) := by decide +kernel
theorem dX4_count_33 : decode cX4_count 33 = .ok (.getfield 18, 3) := by decide +kernel
theorem dX4_count_36 : decode cX4_count 36 = .ok (.getfield 41, 3) := by decide +kernel
theorem dX4_count_39 : decode cX4_count 39 = .ok (.ireturn, 1) := by decide +kernel
theorem dX4_count_40 : decode cX4_count 40 = .ok (.iconst 0, 1) := by decide +kernel
theorem dX4_count_41 : decode cX4_count 41 = .ok (.istore_n 2, 1) := by decide +kernel
theorem dX4_count_42 : decode cX4_count 42 = .ok (.aload_n 0, 1) := by decide +kernel
theorem dX4_count_43 : decode cX4_count 43 = .ok (.getfield 11, 3) := by decide +kernel
theorem dX4_count_46 : decode cX4_count 46 = .ok (.astore_n 3, 1) := by decide +kernel
theorem dX4_count_47 : decode cX4_count 47 = .ok (.aload_n 3, 1) := by decide +kernel
theorem dX4_count_48 : decode cX4_count 48 = .ok (.arraylength, 1) := by decide +kernel
theorem dX4_count_49 : decode cX4_count 49 = .ok (.istore 4, 2) := by decide +kernel
theorem dX4_count_51 : decode cX4_count 51 = .ok (.iconst 0, 1) := by decide +kernel
theorem dX4_count_52 : decode cX4_count 52 = .ok (.istore 5, 2) := by decide +kernel
theorem dX4_count_54 : decode cX4_count 54 = .ok (.iload 5, 2) := by decide +kernel
theorem dX4_count_56 : decode cX4_count 56 = .ok (.iload 4, 2) := by decide +kernel
theorem dX4_count_58 : decode cX4_count 58 = .ok (.if_icmp .ge 57, 3) := by decide +kernel
theorem dX4_count_61 : decode cX4_count 61 = .ok (.aload_n 3, 1) := by decide +kernel
theorem dX4_count_62 : decode cX4_count 62 = .ok (.iload 5, 2) := by decide +kernel
theorem dX4_count_64 : decode cX4_count 64 = .ok (.aaload, 1) := by decide +kernel
theorem dX4_count_65 : decode cX4_count 65 = .ok (.astore 6, 2) := by decide +kernel
theorem dX4_count_67 : decode cX4_count 67 = .ok (.aload 6, 2) := by decide +kernel
theorem dX4_count_69 : decode cX4_count 69 = .ok (.ifnull 40, 3) := by decide +kernel
theorem dX4_count_72 : decode cX4_count 72 = .ok (.aload 6, 2) := by decide +kernel
theorem dX4_count_74 : decode cX4_count 74 = .ok (.getfield 100, 3) := by decide +kernel
theorem dX4_count_77 : decode cX4_count 77 = .ok (.ifCond .eq 32, 3) := by decide +kernel
theorem dX4_count_80 : decode cX4_count 80 = .ok (.iload_n 2, 1) := by decide +kernel
theorem dX4_count_81 : decode cX4_count 81 = .ok (.iload_n 1, 1) := by decide +kernel
theorem dX4_count_82 : decode cX4_count 82 = .ok (.ifCond .ne 7, 3) := by decide +kernel
theorem dX4_count_85 : decode cX4_count 85 = .ok (.iconst 1, 1) := by decide +kernel
theorem dX4_count_86 : decode cX4_count 86 = .ok (.goto 21, 3) := by decide +kernel
theorem dX4_count_89 : decode cX4_count 89 = .ok (.iload_n 1, 1) := by decide +kernel
theorem dX4_count_90 : decode cX4_count 90 = .ok (.iconst 1, 1) := by decide +kernel
theorem dX4_count_91 : decode cX4_count 91 = .ok (.if_icmp .ne 11, 3) := by decide +kernel
theorem dX4_count_94 : decode cX4_count 94 = .ok (.aload 6, 2) := by decide +kernel
theorem dX4_count_96 : decode cX4_count 96 = .ok (.invokevirtual 94, 3) := by decide +kernel
theorem dX4_count_99 : decode cX4_count 99 = .ok (.goto 8, 3) := by decide +kernel
theorem dX4_count_102 : decode cX4_count 102 = .ok (.aload 6, 2) := by decide +kernel
theorem dX4_count_104 : decode cX4_count 104 = .ok (.getfield 118, 3) := by decide +kernel
theorem dX4_count_107 : decode cX4_count 107 = .ok (.iadd, 1) := by decide +kernel
theorem dX4_count_108 : decode cX4_count 108 = .ok (.istore_n 2, 1) := by decide +kernel
theorem dX4_count_109 : decode cX4_count 109 = .ok (.iinc 5 1, 3) := by decide +kernel
theorem dX4_count_112 : decode cX4_count 112 = .ok (.goto (-58), 3) := by decide +kernel
theorem dX4_count_115 : decode cX4_count 115 = .ok (.iload_n 2, 1) := by decide +kernel
theorem dX4_count_116 : decode cX4_count 116 = .ok (.ireturn, 1) := by decide +kernel
set_option maxRecDepth 20000 in
theorem ggX4_digest_X4_count : GoodIn wsX4_digest wsX4_count := goodIn_ca (goodIn_r _ [10, 11, 3, 4, 2, 12, 13, 14, 15, 9, 16, 17, 18, 19, 20, 21, 22, 23, 24, 25, 26, 27, 28, 29, 30, 31, 188, 189, 190, 191, 192, 193, 194, 195, 196, 197, 198, 199, 200, 201, 202, 203, 204, 205, 206, 207, 208, 209, 210, 211, 212, 213, 214, 215, 216, 217, 218] (by decide +kernel) (by decide +kernel)) (goodIn_sub (fun _ h => List.mem_cons_of_mem _ (List.mem_append_left _ (List.mem_append_left _ (List.mem_append_right _ h)))) (by decide +kernel))
set_option maxRecDepth 20000 in
theorem gX4_digest_X4_count : GoodIn wsX4_digest (wsV RX4 103 RX4 yX4_count wsX4_count) := goodIn_app (goodIn_of _ (by decide +kernel)) ggX4_digest_X4_count
set_option maxRecDepth 20000 in
theorem ggX4_digest_X4_mix : GoodIn wsX4_digest wsX4_mix := goodIn_r _ [34, 35] (by decide +kernel) (by decide +kernel)
set_option maxRecDepth 20000 in
theorem gX4_digest_X4_mix : GoodIn wsX4_digest (va_wsS RX4 203 yX4_mix wsX4_mix) := goodIn_app (goodIn_of _ (by decide +kernel)) ggX4_digest_X4_mix
set_option maxRecDepth 20000 in
theorem ggX4_digest_X4_mixScreen : GoodIn wsX4_digest wsX4_mixScreen := goodIn_r _ [39, 12, 40, 41, 42, 13, 43, 44, 11, 32, 33, 9, 34, 35, 45, 46, 47, 22, 48, 49, 50, 51, 52, 53, 54, 55, 24, 56, 57, 58, 28, 59, 30, 60, 31, 61, 26, 27, 29, 19, 20, 21, 23, 25, 62, 63, 64, 65, 66, 67, 68, 69, 70, 71, 72, 73, 74, 75, 76, 77, 78, 79, 80, 81, 82, 83, 84, 85, 86, 87, 88, 89, 90, 91, 92, 93, 94, 95, 96, 97, 98, 99, 100, 101, 102, 103, 104, 105, 106, 107, 108, 109, 110, 111, 112, 113, 114, 115, 116, 117, 118, 119, 120, 121, 122, 201, 202, 203, 204, 205, 206, 207, 208, 209, 210, 211, 212, 213, 214, 215, 188, 189, 190, 191, 192, 219, 220, 221, 222, 223, 224, 225, 226, 227, 228, 216, 217, 218] (by decide +kernel) (by decide +kernel)
set_option maxRecDepth 20000 in
theorem gX4_digest_X4_mixScreen : GoodIn wsX4_digest (wsV RX4 207 RX4 yX4_mixScreen wsX4_mixScreen) := goodIn_app (goodIn_of _ (by decide +kernel)) ggX4_digest_X4_mixScreen
set_option maxRecDepth 20000 in
theorem ggX4_digest_X4_mixPair : GoodIn wsX4_digest wsX4_mixPair := goodIn_ca (goodIn_ca (goodIn_ca (goodIn_r _ [126, 127, 128, 129, 9, 130, 2, 12, 131, 132, 133, 134, 135, 14, 15, 16, 17, 18, 136, 137, 138, 139, 140, 141, 142, 143, 144, 145, 146, 147, 148, 28, 149, 30, 150, 151, 76, 152, 31, 60, 153, 154, 155, 156, 157, 158, 159, 160, 161, 162, 163, 164, 165, 166, 167, 168, 57, 58, 59, 61, 26, 27, 29, 32, 33, 34, 35, 169, 170, 171, 172, 173, 174, 175, 176, 177, 178, 179, 180, 181, 182, 183, 184, 185, 186, 187, 188, 189, 190, 191, 192, 201, 202, 203, 204, 205, 206, 207, 208, 209, 210, 211, 212, 213, 214, 215, 216, 217, 218] (by decide +kernel) (by decide +kernel)) (goodIn_sub (fun _ h => List.mem_cons_of_mem _ (List.mem_append_left _ (List.mem_append_left _ (List.mem_append_right _ h)))) (by decide +kernel))) (goodIn_sub (fun _ h => List.mem_cons_of_mem _ (List.mem_append_left _ (List.mem_append_right _ h))) (by decide +kernel))) (goodIn_sub (fun _ h => List.mem_cons_of_mem _ (List.mem_append_right _ h)) (by decide +kernel))
set_option maxRecDepth 20000 in
theorem gX4_digest_X4_mixPair : GoodIn wsX4_digest (wsV RX4 211 RX4 yX4_mixPair wsX4_mixPair) := goodIn_app (goodIn_of _ (by decide +kernel)) ggX4_digest_X4_mixPair
set_option maxRecDepth 20000 in
theorem ggX4_digest_X4_at : GoodIn wsX4_digest wsX4_at := goodIn_r _ [64] (by decide +kernel) (by decide +kernel)
set_option maxRecDepth 20000 in
theorem gX4_digest_X4_at : GoodIn wsX4_digest (va_wsS RX4 68 yX4_at wsX4_at) := goodIn_app (goodIn_of _ (by decide +kernel)) ggX4_digest_X4_at
theorem dX4_digest_0 : decode cX4_digest 0 = .ok (.ldc2_w 201, 3) := by decide +kernel
theorem dX4_digest_3 : decode cX4_digest 3 = .ok (.lstore_n 1, 1) := by decide +kernel
theorem dX4_digest_4 : decode cX4_digest 4 = .ok (.iconst 0, 1) := by decide +kernel
theorem dX4_digest_5 : decode cX4_digest 5 = .ok (.istore_n 3, 1) := by decide +kernel
theorem dX4_digest_6 : decode cX4_digest 6 = .ok (.iload_n 3, 1) := by decide +kernel
theorem dX4_digest_7 : decode cX4_digest 7 = .ok (.iconst 4, 1) := by decide +kernel
theorem dX4_digest_8 : decode cX4_digest 8 = .ok (.if_icmp .gt 20, 3) := by decide +kernel
theorem dX4_digest_11 : decode cX4_digest 11 = .ok (.lload_n 1, 1) := by decide +kernel
theorem dX4_digest_12 : decode cX4_digest 12 = .ok (.aload_n 0, 1) := by decide +kernel
theorem dX4_digest_13 : decode cX4_digest 13 = .ok (.iload_n 3, 1) := by decide +kernel
theorem dX4_digest_14 : decode cX4_digest 14 = .ok (.invokevirtual 103, 3) := by decide +kernel
theorem dX4_digest_17 : decode cX4_digest 17 = .ok (.i2l, 1) := by decide +kernel
theorem dX4_digest_18 : decode cX4_digest 18 = .ok (.invokestatic 203, 3) := by decide +kernel
theorem dX4_digest_21 : decode cX4_digest 21 = .ok (.lstore_n 1, 1) := by decide +kernel
theorem dX4_digest_22 : decode cX4_digest 22 = .ok (.iinc 3 1, 3) := by decide +kernel
theorem dX4_digest_25 : decode cX4_digest 25 = .ok (.goto (-19), 3) := by decide +kernel
theorem dX4_digest_28 : decode cX4_digest 28 = .ok (.aload_n 0, 1) := by decide +kernel
theorem dX4_digest_29 : decode cX4_digest 29 = .ok (.getfield 11, 3) := by decide +kernel
theorem dX4_digest_32 : decode cX4_digest 32 = .ok (.astore_n 3, 1) := by decide +kernel
theorem dX4_digest_33 : decode cX4_digest 33 = .ok (.aload_n 3, 1) := by decide +kernel
theorem dX4_digest_34 : decode cX4_digest 34 = .ok (.arraylength, 1) := by decide +kernel
theorem dX4_digest_35 : decode cX4_digest 35 = .ok (.istore 4, 2) := by decide +kernel
theorem dX4_digest_37 : decode cX4_digest 37 = .ok (.iconst 0, 1) := by decide +kernel
theorem dX4_digest_38 : decode cX4_digest 38 = .ok (.istore 5, 2) := by decide +kernel
theorem dX4_digest_40 : decode cX4_digest 40 = .ok (.iload 5, 2) := by decide +kernel
theorem dX4_digest_42 : decode cX4_digest 42 = .ok (.iload 4, 2) := by decide +kernel
theorem dX4_digest_44 : decode cX4_digest 44 = .ok (.if_icmp .ge 23, 3) := by decide +kernel
theorem dX4_digest_47 : decode cX4_digest 47 = .ok (.aload_n 3, 1) := by decide +kernel
theorem dX4_digest_48 : decode cX4_digest 48 = .ok (.iload 5, 2) := by decide +kernel
theorem dX4_digest_50 : decode cX4_digest 50 = .ok (.aaload, 1) := by decide +kernel
theorem dX4_digest_51 : decode cX4_digest 51 = .ok (.astore 6, 2) := by decide +kernel
theorem dX4_digest_53 : decode cX4_digest 53 = .ok (.aload_n 0, 1) := by decide +kernel
theorem dX4_digest_54 : decode cX4_digest 54 = .ok (.lload_n 1, 1) := by decide +kernel
theorem dX4_digest_55 : decode cX4_digest 55 = .ok (.aload 6, 2) := by decide +kernel
theorem dX4_digest_57 : decode cX4_digest 57 = .ok (.invokevirtual 207, 3) := by decide +kernel
theorem dX4_digest_60 : decode cX4_digest 60 = .ok (.lstore_n 1, 1) := by decide +kernel
theorem dX4_digest_61 : decode cX4_digest 61 = .ok (.iinc 5 1, 3) := by decide +kernel
theorem dX4_digest_64 : decode cX4_digest 64 = .ok (.goto (-24), 3) := by decide +kernel
theorem dX4_digest_67 : decode cX4_digest 67 = .ok (.iconst 0, 1) := by decide +kernel
theorem dX4_digest_68 : decode cX4_digest 68 = .ok (.istore_n 3, 1) := by decide +kernel
theorem dX4_digest_69 : decode cX4_digest 69 = .ok (.iload_n 3, 1) := by decide +kernel
theorem dX4_digest_70 : decode cX4_digest 70 = .ok (.iconst 3, 1) := by decide +kernel
theorem dX4_digest_71 : decode cX4_digest 71 = .ok (.if_icmp .ge 35, 3) := by decide +kernel
theorem dX4_digest_74 : decode cX4_digest 74 = .ok (.iload_n 3, 1) := by decide +kernel
theorem dX4_digest_75 : decode cX4_digest 75 = .ok (.iconst 1, 1) := by decide +kernel
theorem dX4_digest_76 : decode cX4_digest 76 = .ok (.iadd, 1) := by decide +kernel
theorem dX4_digest_77 : decode cX4_digest 77 = .ok (.istore 4, 2) := by decide +kernel
theorem dX4_digest_79 : decode cX4_digest 79 = .ok (.iload 4, 2) := by decide +kernel
theorem dX4_digest_81 : decode cX4_digest 81 = .ok (.iconst 3, 1) := by decide +kernel
theorem dX4_digest_82 : decode cX4_digest 82 = .ok (.if_icmp .ge 18, 3) := by decide +kernel
theorem dX4_digest_85 : decode cX4_digest 85 = .ok (.aload_n 0, 1) := by decide +kernel
theorem dX4_digest_86 : decode cX4_digest 86 = .ok (.lload_n 1, 1) := by decide +kernel
theorem dX4_digest_87 : decode cX4_digest 87 = .ok (.iload_n 3, 1) := by decide +kernel
theorem dX4_digest_88 : decode cX4_digest 88 = .ok (.iload 4, 2) := by decide +kernel
theorem dX4_digest_90 : decode cX4_digest 90 = .ok (.invokevirtual 211, 3) := by decide +kernel
theorem dX4_digest_93 : decode cX4_digest 93 = .ok (.lstore_n 1, 1) := by decide +kernel
theorem dX4_digest_94 : decode cX4_digest 94 = .ok (.iinc 4 1, 3) := by decide +kernel
theorem dX4_digest_97 : decode cX4_digest 97 = .ok (.goto (-18), 3) := by decide +kernel
theorem dX4_digest_100 : decode cX4_digest 100 = .ok (.iinc 3 1, 3) := by decide +kernel
theorem dX4_digest_103 : decode cX4_digest 103 = .ok (.goto (-34), 3) := by decide +kernel
theorem dX4_digest_106 : decode cX4_digest 106 = .ok (.iconst 0, 1) := by decide +kernel
theorem dX4_digest_107 : decode cX4_digest 107 = .ok (.istore_n 3, 1) := by decide +kernel
theorem dX4_digest_108 : decode cX4_digest 108 = .ok (.iload_n 3, 1) := by decide +kernel
theorem dX4_digest_109 : decode cX4_digest 109 = .ok (.aload_n 0, 1) := by decide +kernel
theorem dX4_digest_110 : decode cX4_digest 110 = .ok (.getfield 18, 3) := by decide +kernel
theorem dX4_digest_113 : decode cX4_digest 113 = .ok (.getfield 41, 3) := by decide +kernel
theorem dX4_digest_116 : decode cX4_digest 116 = .ok (.if_icmp .ge 26, 3) := by decide +kernel
theorem dX4_digest_119 : decode cX4_digest 119 = .ok (.lload_n 1, 1) := by decide +kernel
theorem dX4_digest_120 : decode cX4_digest 120 = .ok (.aload_n 0, 1) := by decide +kernel
theorem dX4_digest_121 : decode cX4_digest 121 = .ok (.getfield 18, 3) := by decide +kernel
theorem dX4_digest_124 : decode cX4_digest 124 = .ok (.getfield 215, 3) := by decide +kernel
theorem dX4_digest_127 : decode cX4_digest 127 = .ok (.iload_n 3, 1) := by decide +kernel
theorem dX4_digest_128 : decode cX4_digest 128 = .ok (.invokestatic 68, 3) := by decide +kernel
theorem dX4_digest_131 : decode cX4_digest 131 = .ok (.i2l, 1) := by decide +kernel
theorem dX4_digest_132 : decode cX4_digest 132 = .ok (.invokestatic 203, 3) := by decide +kernel
theorem dX4_digest_135 : decode cX4_digest 135 = .ok (.lstore_n 1, 1) := by decide +kernel
theorem dX4_digest_136 : decode cX4_digest 136 = .ok (.iinc 3 1, 3) := by decide +kernel
theorem dX4_digest_139 : decode cX4_digest 139 = .ok (.goto (-31), 3) := by decide +kernel
theorem dX4_digest_142 : decode cX4_digest 142 = .ok (.lload_n 1, 1) := by decide +kernel
theorem dX4_digest_143 : decode cX4_digest 143 = .ok (.lreturn, 1) := by decide +kernel
theorem dX4_mix_0 : decode cX4_mix 0 = .ok (.ldc2_w 218, 3) := by decide +kernel
theorem dX4_mix_3 : decode cX4_mix 3 = .ok (.lload_n 0, 1) := by decide +kernel
theorem dX4_mix_4 : decode cX4_mix 4 = .ok (.lmul, 1) := by decide +kernel
theorem dX4_mix_5 : decode cX4_mix 5 = .ok (.lload_n 2, 1) := by decide +kernel
theorem dX4_mix_6 : decode cX4_mix 6 = .ok (.ladd, 1) := by decide +kernel
theorem dX4_mix_7 : decode cX4_mix 7 = .ok (.lreturn, 1) := by decide +kernel
set_option maxRecDepth 20000 in
theorem ggX4_mixScreen_X4_mix : GoodIn wsX4_mixScreen wsX4_mix := goodIn_r _ [12, 13] (by decide +kernel) (by decide +kernel)
set_option maxRecDepth 20000 in
theorem gX4_mixScreen_X4_mix : GoodIn wsX4_mixScreen (va_wsS RX4 203 yX4_mix wsX4_mix) := goodIn_app (goodIn_of _ (by decide +kernel)) ggX4_mixScreen_X4_mix
set_option maxRecDepth 20000 in
theorem ggX4_mixScreen_X3_property : GoodIn wsX4_mixScreen wsX3_property := goodIn_r _ [18, 19, 20, 21, 22, 23, 24, 25, 26, 27, 28, 29, 30, 31, 32, 33, 34, 35, 36, 37, 38, 105, 106, 107, 108, 109, 110, 111, 112, 113, 114, 115, 116, 117, 118, 119, 135, 136, 137] (by decide +kernel) (by decide +kernel)
set_option maxRecDepth 20000 in
theorem gX4_mixScreen_X3_property : GoodIn wsX4_mixScreen (wsV RX4 124 RX3 yX3_property wsX3_property) := goodIn_app (goodIn_of _ (by decide +kernel)) ggX4_mixScreen_X3_property
set_option maxRecDepth 20000 in
theorem ggX4_mixScreen_X3_area : GoodIn wsX4_mixScreen wsX3_area := goodIn_r _ [42, 26, 43, 36, 37, 30, 38, 32, 34, 105, 106, 107, 108, 109, 110, 111, 112, 113, 114, 115, 116, 117, 118, 119, 135, 136, 137] (by decide +kernel) (by decide +kernel)
set_option maxRecDepth 20000 in
theorem gX4_mixScreen_X3_area : GoodIn wsX4_mixScreen (wsV RX4 94 RX3 yX3_area wsX3_area) := goodIn_app (goodIn_of _ (by decide +kernel)) ggX4_mixScreen_X3_area
set_option maxRecDepth 20000 in
theorem ggX4_mixScreen_X4_at : GoodIn wsX4_mixScreen wsX4_at := goodIn_r _ [46] (by decide +kernel) (by decide +kernel)
set_option maxRecDepth 20000 in
theorem gX4_mixScreen_X4_at : GoodIn wsX4_mixScreen (va_wsS RX4 68 yX4_at wsX4_at) := goodIn_app (goodIn_of _ (by decide +kernel)) ggX4_mixScreen_X4_at
set_option maxRecDepth 20000 in
theorem ggX4_mixScreen_X0_examine : GoodIn wsX4_mixScreen wsX0_examine := goodIn_r _ [51, 52, 53, 54, 55, 56, 57, 58, 59, 60, 11, 61, 62, 40, 41, 17, 42, 26, 43, 36, 37, 30, 38, 32, 34, 63, 64, 65, 66, 67, 45, 46, 68, 69, 70, 50, 71, 72, 73, 74, 75, 76, 77, 78, 79, 80, 81, 82, 83, 84, 85, 86, 87, 88, 89, 90, 125, 126, 127, 128, 129, 130, 131, 132, 133, 134, 105, 106, 107, 108, 109, 110, 111, 112, 113, 114, 115, 116, 117, 118, 119, 135, 136, 137] (by decide +kernel) (by decide +kernel)
set_option maxRecDepth 20000 in
theorem gX4_mixScreen_X0_examine : GoodIn wsX4_mixScreen (wsV RX4 159 RX0 yX0_examine wsX0_examine) := goodIn_app (goodIn_of _ (by decide +kernel)) ggX4_mixScreen_X0_examine
set_option maxRecDepth 20000 in
theorem ggX4_mixScreen_X3_strengthOf : GoodIn wsX4_mixScreen wsX3_strengthOf := goodIn_r _ [94, 95, 96, 58, 97, 98, 40, 41, 17, 42, 26, 43, 36, 37, 30, 38, 32, 34, 99, 64, 65, 66, 67, 45, 11, 46, 100, 101, 102, 103, 104, 87, 88, 89, 90, 105, 106, 107, 108, 109, 110, 111, 112, 113, 114, 115, 116, 117, 118, 119, 135, 136, 137] (by decide +kernel) (by decide +kernel)
set_option maxRecDepth 20000 in
theorem gX4_mixScreen_X3_strengthOf : GoodIn wsX4_mixScreen (wsV RX4 169 RX3 yX3_strengthOf wsX3_strengthOf) := goodIn_app (goodIn_of _ (by decide +kernel)) ggX4_mixScreen_X3_strengthOf
theorem dX4_mixScreen_0 : decode cX4_mixScreen 0 = .ok (.aload_n 3, 1) := by decide +kernel
theorem dX4_mixScreen_1 : decode cX4_mixScreen 1 = .ok (.ifnull 10, 3) := by decide +kernel
theorem dX4_mixScreen_4 : decode cX4_mixScreen 4 = .ok (.aload_n 3, 1) := by decide +kernel
theorem dX4_mixScreen_5 : decode cX4_mixScreen 5 = .ok (.getfield 100, 3) := by decide +kernel
theorem dX4_mixScreen_8 : decode cX4_mixScreen 8 = .ok (.ifCond .ne 9, 3) := by decide +kernel
theorem dX4_mixScreen_11 : decode cX4_mixScreen 11 = .ok (.lload_n 1, 1) := by decide +kernel
theorem dX4_mixScreen_12 : decode cX4_mixScreen 12 = .ok (.lconst 0, 1) := by decide +kernel
theorem dX4_mixScreen_13 : decode cX4_mixScreen 13 = .ok (.invokestatic 203, 3) := by decide +kernel
theorem dX4_mixScreen_16 : decode cX4_mixScreen 16 = .ok (.lreturn, 1) := by decide +kernel
theorem dX4_mixScreen_17 : decode cX4_mixScreen 17 = .ok (.lload_n 1, 1) := by decide +kernel
theorem dX4_mixScreen_18 : decode cX4_mixScreen 18 = .ok (.lconst 1, 1) := by decide +kernel
theorem dX4_mixScreen_19 : decode cX4_mixScreen 19 = .ok (.invokestatic 203, 3) := by decide +kernel
theorem dX4_mixScreen_22 : decode cX4_mixScreen 22 = .ok (.lstore 4, 2) := by decide +kernel
theorem dX4_mixScreen_24 : decode cX4_mixScreen 24 = .ok (.iconst 0, 1) := by decide +kernel
theorem dX4_mixScreen_25 : decode cX4_mixScreen 25 = .ok (.istore 6, 2) := by decide +kernel
theorem dX4_mixScreen_27 : decode cX4_mixScreen 27 = .ok (.iload 6, 2) := by decide +kernel
theorem dX4_mixScreen_29 : decode cX4_mixScreen 29 = .ok (.bipush 10, 2) := by decide +kernel
theorem dX4_mixScreen_31 : decode cX4_mixScreen 31 = .ok (.if_icmp .gt 23, 3) := by decide +kernel
theorem dX4_mixScreen_34 : decode cX4_mixScreen 34 = .ok (.lload 4, 2) := by decide +kernel
theorem dX4_mixScreen_36 : decode cX4_mixScreen 36 = .ok (.aload_n 3, 1) := by decide +kernel
theorem dX4_mixScreen_37 : decode cX4_mixScreen 37 = .ok (.iload 6, 2) := by decide +kernel
theorem dX4_mixScreen_39 : decode cX4_mixScreen 39 = .ok (.invokevirtual 124, 3) := by decide +kernel
theorem dX4_mixScreen_42 : decode cX4_mixScreen 42 = .ok (.i2l, 1) := by decide +kernel
theorem dX4_mixScreen_43 : decode cX4_mixScreen 43 = .ok (.invokestatic 203, 3) := by decide +kernel
theorem dX4_mixScreen_46 : decode cX4_mixScreen 46 = .ok (.lstore 4, 2) := by decide +kernel
theorem dX4_mixScreen_48 : decode cX4_mixScreen 48 = .ok (.iinc 6 1, 3) := by decide +kernel
theorem dX4_mixScreen_51 : decode cX4_mixScreen 51 = .ok (.goto (-24), 3) := by decide +kernel
theorem dX4_mixScreen_54 : decode cX4_mixScreen 54 = .ok (.iconst 0, 1) := by decide +kernel
theorem dX4_mixScreen_55 : decode cX4_mixScreen 55 = .ok (.istore 6, 2) := by decide +kernel
theorem dX4_mixScreen_57 : decode cX4_mixScreen 57 = .ok (.iload 6, 2) := by decide +kernel
theorem dX4_mixScreen_59 : decode cX4_mixScreen 59 = .ok (.aload_n 3, 1) := by decide +kernel
theorem dX4_mixScreen_60 : decode cX4_mixScreen 60 = .ok (.invokevirtual 94, 3) := by decide +kernel
theorem dX4_mixScreen_63 : decode cX4_mixScreen 63 = .ok (.if_icmp .ge 43, 3) := by decide +kernel
theorem dX4_mixScreen_66 : decode cX4_mixScreen 66 = .ok (.lload 4, 2) := by decide +kernel
theorem dX4_mixScreen_68 : decode cX4_mixScreen 68 = .ok (.aload_n 3, 1) := by decide +kernel
theorem dX4_mixScreen_69 : decode cX4_mixScreen 69 = .ok (.getfield 140, 3) := by decide +kernel
theorem dX4_mixScreen_72 : decode cX4_mixScreen 72 = .ok (.iload 6, 2) := by decide +kernel
theorem dX4_mixScreen_74 : decode cX4_mixScreen 74 = .ok (.invokestatic 68, 3) := by decide +kernel
theorem dX4_mixScreen_77 : decode cX4_mixScreen 77 = .ok (.i2l, 1) := by decide +kernel
theorem dX4_mixScreen_78 : decode cX4_mixScreen 78 = .ok (.invokestatic 203, 3) := by decide +kernel
theorem dX4_mixScreen_81 : decode cX4_mixScreen 81 = .ok (.lstore 4, 2) := by decide +kernel
theorem dX4_mixScreen_83 : decode cX4_mixScreen 83 = .ok (.lload 4, 2) := by decide +kernel
theorem dX4_mixScreen_85 : decode cX4_mixScreen 85 = .ok (.aload_n 3, 1) := by decide +kernel
theorem dX4_mixScreen_86 : decode cX4_mixScreen 86 = .ok (.getfield 143, 3) := by decide +kernel
theorem dX4_mixScreen_89 : decode cX4_mixScreen 89 = .ok (.iload 6, 2) := by decide +kernel
theorem dX4_mixScreen_91 : decode cX4_mixScreen 91 = .ok (.invokestatic 68, 3) := by decide +kernel
theorem dX4_mixScreen_94 : decode cX4_mixScreen 94 = .ok (.i2l, 1) := by decide +kernel
theorem dX4_mixScreen_95 : decode cX4_mixScreen 95 = .ok (.invokestatic 203, 3) := by decide +kernel
theorem dX4_mixScreen_98 : decode cX4_mixScreen 98 = .ok (.lstore 4, 2) := by decide +kernel
theorem dX4_mixScreen_100 : decode cX4_mixScreen 100 = .ok (.iinc 6 1, 3) := by decide +kernel
theorem dX4_mixScreen_103 : decode cX4_mixScreen 103 = .ok (.goto (-46), 3) := by decide +kernel
theorem dX4_mixScreen_106 : decode cX4_mixScreen 106 = .ok (.aload_n 0, 1) := by decide +kernel
theorem dX4_mixScreen_107 : decode cX4_mixScreen 107 = .ok (.getfield 25, 3) := by decide +kernel
theorem dX4_mixScreen_110 : decode cX4_mixScreen 110 = .ok (.aload_n 3, 1) := by decide +kernel
theorem dX4_mixScreen_111 : decode cX4_mixScreen 111 = .ok (.aload_n 3, 1) := by decide +kernel
theorem dX4_mixScreen_112 : decode cX4_mixScreen 112 = .ok (.getfield 118, 3) := by decide +kernel
theorem dX4_mixScreen_115 : decode cX4_mixScreen 115 = .ok (.invokevirtual 159, 3) := by decide +kernel
theorem dX4_mixScreen_118 : decode cX4_mixScreen 118 = .ok (.lload 4, 2) := by decide +kernel
theorem dX4_mixScreen_120 : decode cX4_mixScreen 120 = .ok (.aload_n 0, 1) := by decide +kernel
theorem dX4_mixScreen_121 : decode cX4_mixScreen 121 = .ok (.getfield 25, 3) := by decide +kernel
theorem dX4_mixScreen_124 : decode cX4_mixScreen 124 = .ok (.getfield 163, 3) := by decide +kernel
theorem dX4_mixScreen_127 : decode cX4_mixScreen 127 = .ok (.i2l, 1) := by decide +kernel
theorem dX4_mixScreen_128 : decode cX4_mixScreen 128 = .ok (.invokestatic 203, 3) := by decide +kernel
theorem dX4_mixScreen_131 : decode cX4_mixScreen 131 = .ok (.lstore 4, 2) := by decide +kernel
theorem dX4_mixScreen_133 : decode cX4_mixScreen 133 = .ok (.lload 4, 2) := by decide +kernel
theorem dX4_mixScreen_135 : decode cX4_mixScreen 135 = .ok (.aload_n 0, 1) := by decide +kernel
theorem dX4_mixScreen_136 : decode cX4_mixScreen 136 = .ok (.getfield 25, 3) := by decide +kernel
theorem dX4_mixScreen_139 : decode cX4_mixScreen 139 = .ok (.getfield 166, 3) := by decide +kernel
theorem dX4_mixScreen_142 : decode cX4_mixScreen 142 = .ok (.i2l, 1) := by decide +kernel
theorem dX4_mixScreen_143 : decode cX4_mixScreen 143 = .ok (.invokestatic 203, 3) := by decide +kernel
theorem dX4_mixScreen_146 : decode cX4_mixScreen 146 = .ok (.lstore 4, 2) := by decide +kernel
theorem dX4_mixScreen_148 : decode cX4_mixScreen 148 = .ok (.lload 4, 2) := by decide +kernel
theorem dX4_mixScreen_150 : decode cX4_mixScreen 150 = .ok (.aload_n 3, 1) := by decide +kernel
theorem dX4_mixScreen_151 : decode cX4_mixScreen 151 = .ok (.aload_n 3, 1) := by decide +kernel
theorem dX4_mixScreen_152 : decode cX4_mixScreen 152 = .ok (.getfield 118, 3) := by decide +kernel
theorem dX4_mixScreen_155 : decode cX4_mixScreen 155 = .ok (.aload_n 0, 1) := by decide +kernel
theorem dX4_mixScreen_156 : decode cX4_mixScreen 156 = .ok (.getfield 121, 3) := by decide +kernel
theorem dX4_mixScreen_159 : decode cX4_mixScreen 159 = .ok (.invokevirtual 169, 3) := by decide +kernel
theorem dX4_mixScreen_162 : decode cX4_mixScreen 162 = .ok (.i2l, 1) := by decide +kernel
theorem dX4_mixScreen_163 : decode cX4_mixScreen 163 = .ok (.invokestatic 203, 3) := by decide +kernel
theorem dX4_mixScreen_166 : decode cX4_mixScreen 166 = .ok (.lreturn, 1) := by decide +kernel
set_option maxRecDepth 20000 in
theorem ggX4_mixPair_X4_presentSlots : GoodIn wsX4_mixPair wsX4_presentSlots := goodIn_r _ [5, 6, 7, 86, 87, 88, 89, 90, 91, 92, 93, 94, 95, 96, 97, 98, 99, 100, 101, 102, 103, 104, 105] (by decide +kernel) (by decide +kernel)
set_option maxRecDepth 20000 in
theorem gX4_mixPair_X4_presentSlots : GoodIn wsX4_mixPair (wsV RX4 177 RX4 yX4_presentSlots wsX4_presentSlots) := goodIn_app (goodIn_of _ (by decide +kernel)) ggX4_mixPair_X4_presentSlots
set_option maxRecDepth 20000 in
theorem ggX4_mixPair_X4_period : GoodIn wsX4_mixPair wsX4_period := goodIn_ca (goodIn_ca (goodIn_r _ [11, 12, 13, 14, 4, 15, 16, 17, 1, 2, 3, 5, 6, 7, 18, 19, 20, 21, 22, 23, 24, 25, 26, 27, 28, 29, 30, 31, 32, 33, 34, 35, 36, 37, 38, 39, 40, 41, 42, 43, 44, 45, 46, 47, 48, 49, 50, 51, 52, 53, 54, 55, 56, 57, 58, 59, 60, 61, 62, 86, 87, 88, 89, 90, 91, 92, 93, 94, 95, 96, 97, 98, 99, 100, 101, 102, 103, 104, 105, 106, 107, 108] (by decide +kernel) (by decide +kernel)) (goodIn_sub (fun _ h => List.mem_cons_of_mem _ (List.mem_append_left _ (List.mem_append_left _ (List.mem_append_right _ h)))) (by decide +kernel))) (goodIn_sub (fun _ h => List.mem_cons_of_mem _ (List.mem_append_left _ (List.mem_append_right _ h))) (by decide +kernel))
set_option maxRecDepth 20000 in
theorem gX4_mixPair_X4_period : GoodIn wsX4_mixPair (wsV RX4 220 RX4 yX4_period wsX4_period) := goodIn_app (goodIn_of _ (by decide +kernel)) ggX4_mixPair_X4_period
set_option maxRecDepth 20000 in
theorem ggX4_mixPair_X4_mix : GoodIn wsX4_mixPair wsX4_mix := goodIn_r _ [65, 66] (by decide +kernel) (by decide +kernel)
set_option maxRecDepth 20000 in
theorem gX4_mixPair_X4_mix : GoodIn wsX4_mixPair (va_wsS RX4 203 yX4_mix wsX4_mix) := goodIn_app (goodIn_of _ (by decide +kernel)) ggX4_mixPair_X4_mix
set_option maxRecDepth 20000 in
theorem ggX4_mixPair_X4_beat : GoodIn wsX4_mixPair wsX4_beat := goodIn_ca (goodIn_ca (goodIn_ca (goodIn_r _ [70, 7, 12, 27, 71, 72, 73, 4, 74, 75, 76, 6, 13, 14, 15, 16, 17, 18, 19, 20, 21, 22, 77, 78, 79, 31, 80, 33, 39, 38, 81, 82, 83, 84, 42, 43, 44, 35, 36, 37, 85, 29, 30, 32, 34, 40, 41, 45, 46, 47, 48, 49, 50, 55, 56, 57, 58, 59, 60, 61, 62, 91, 92, 93, 94, 95, 96, 97, 98, 99, 100, 101, 102, 103, 104, 105, 86, 87, 88, 89, 90, 106, 107, 108] (by decide +kernel) (by decide +kernel)) (goodIn_sub (fun _ h => List.mem_cons_of_mem _ (List.mem_append_right _ h)) (by decide +kernel))) (goodIn_sub (fun _ h => List.mem_cons_of_mem _ (List.mem_append_left _ (List.mem_append_left _ (List.mem_append_right _ h)))) (by decide +kernel))) (goodIn_sub (fun _ h => List.mem_cons_of_mem _ (List.mem_append_left _ (List.mem_append_right _ h))) (by decide +kernel))
set_option maxRecDepth 20000 in
theorem gX4_mixPair_X4_beat : GoodIn wsX4_mixPair (wsV RX4 223 RX4 yX4_beat wsX4_beat) := goodIn_app (goodIn_of _ (by decide +kernel)) ggX4_mixPair_X4_beat
theorem dX4_mixPair_0 : decode cX4_mixPair 0 = .ok (.iconst 1, 1) := by decide +kernel
theorem dX4_mixPair_1 : decode cX4_mixPair 1 = .ok (.iload_n 3, 1) := by decide +kernel
theorem dX4_mixPair_2 : decode cX4_mixPair 2 = .ok (.ishl, 1) := by decide +kernel
theorem dX4_mixPair_3 : decode cX4_mixPair 3 = .ok (.iconst 1, 1) := by decide +kernel
theorem dX4_mixPair_4 : decode cX4_mixPair 4 = .ok (.iload 4, 2) := by decide +kernel
theorem dX4_mixPair_6 : decode cX4_mixPair 6 = .ok (.ishl, 1) := by decide +kernel
theorem dX4_mixPair_7 : decode cX4_mixPair 7 = .ok (.ior, 1) := by decide +kernel
theorem dX4_mixPair_8 : decode cX4_mixPair 8 = .ok (.istore 5, 2) := by decide +kernel
theorem dX4_mixPair_10 : decode cX4_mixPair 10 = .ok (.iload 5, 2) := by decide +kernel
theorem dX4_mixPair_12 : decode cX4_mixPair 12 = .ok (.aload_n 0, 1) := by decide +kernel
theorem dX4_mixPair_13 : decode cX4_mixPair 13 = .ok (.invokevirtual 177, 3) := by decide +kernel
theorem dX4_mixPair_16 : decode cX4_mixPair 16 = .ok (.iand, 1) := by decide +kernel
theorem dX4_mixPair_17 : decode cX4_mixPair 17 = .ok (.iload 5, 2) := by decide +kernel
theorem dX4_mixPair_19 : decode cX4_mixPair 19 = .ok (.if_icmp .eq 5, 3) := by decide +kernel
theorem dX4_mixPair_22 : decode cX4_mixPair 22 = .ok (.lload_n 1, 1) := by decide +kernel
theorem dX4_mixPair_23 : decode cX4_mixPair 23 = .ok (.lreturn, 1) := by decide +kernel
theorem dX4_mixPair_24 : decode cX4_mixPair 24 = .ok (.lload_n 1, 1) := by decide +kernel
theorem dX4_mixPair_25 : decode cX4_mixPair 25 = .ok (.lstore 6, 2) := by decide +kernel
theorem dX4_mixPair_27 : decode cX4_mixPair 27 = .ok (.iconst 0, 1) := by decide +kernel
theorem dX4_mixPair_28 : decode cX4_mixPair 28 = .ok (.istore 8, 2) := by decide +kernel
theorem dX4_mixPair_30 : decode cX4_mixPair 30 = .ok (.iload 8, 2) := by decide +kernel
theorem dX4_mixPair_32 : decode cX4_mixPair 32 = .ok (.iconst 3, 1) := by decide +kernel
theorem dX4_mixPair_33 : decode cX4_mixPair 33 = .ok (.if_icmp .gt 25, 3) := by decide +kernel
theorem dX4_mixPair_36 : decode cX4_mixPair 36 = .ok (.lload 6, 2) := by decide +kernel
theorem dX4_mixPair_38 : decode cX4_mixPair 38 = .ok (.aload_n 0, 1) := by decide +kernel
theorem dX4_mixPair_39 : decode cX4_mixPair 39 = .ok (.iload 5, 2) := by decide +kernel
theorem dX4_mixPair_41 : decode cX4_mixPair 41 = .ok (.iload 8, 2) := by decide +kernel
theorem dX4_mixPair_43 : decode cX4_mixPair 43 = .ok (.invokevirtual 220, 3) := by decide +kernel
theorem dX4_mixPair_46 : decode cX4_mixPair 46 = .ok (.i2l, 1) := by decide +kernel
theorem dX4_mixPair_47 : decode cX4_mixPair 47 = .ok (.invokestatic 203, 3) := by decide +kernel
theorem dX4_mixPair_50 : decode cX4_mixPair 50 = .ok (.lstore 6, 2) := by decide +kernel
theorem dX4_mixPair_52 : decode cX4_mixPair 52 = .ok (.iinc 8 1, 3) := by decide +kernel
theorem dX4_mixPair_55 : decode cX4_mixPair 55 = .ok (.goto (-25), 3) := by decide +kernel
theorem dX4_mixPair_58 : decode cX4_mixPair 58 = .ok (.iconst 0, 1) := by decide +kernel
theorem dX4_mixPair_59 : decode cX4_mixPair 59 = .ok (.istore 8, 2) := by decide +kernel
theorem dX4_mixPair_61 : decode cX4_mixPair 61 = .ok (.iload 8, 2) := by decide +kernel
theorem dX4_mixPair_63 : decode cX4_mixPair 63 = .ok (.iconst 3, 1) := by decide +kernel
theorem dX4_mixPair_64 : decode cX4_mixPair 64 = .ok (.if_icmp .gt 26, 3) := by decide +kernel
theorem dX4_mixPair_67 : decode cX4_mixPair 67 = .ok (.lload 6, 2) := by decide +kernel
theorem dX4_mixPair_69 : decode cX4_mixPair 69 = .ok (.aload_n 0, 1) := by decide +kernel
theorem dX4_mixPair_70 : decode cX4_mixPair 70 = .ok (.iload_n 3, 1) := by decide +kernel
theorem dX4_mixPair_71 : decode cX4_mixPair 71 = .ok (.iload 4, 2) := by decide +kernel
theorem dX4_mixPair_73 : decode cX4_mixPair 73 = .ok (.iload 8, 2) := by decide +kernel
theorem dX4_mixPair_75 : decode cX4_mixPair 75 = .ok (.invokevirtual 223, 3) := by decide +kernel
theorem dX4_mixPair_78 : decode cX4_mixPair 78 = .ok (.i2l, 1) := by decide +kernel
theorem dX4_mixPair_79 : decode cX4_mixPair 79 = .ok (.invokestatic 203, 3) := by decide +kernel
theorem dX4_mixPair_82 : decode cX4_mixPair 82 = .ok (.lstore 6, 2) := by decide +kernel
theorem dX4_mixPair_84 : decode cX4_mixPair 84 = .ok (.iinc 8 1, 3) := by decide +kernel
theorem dX4_mixPair_87 : decode cX4_mixPair 87 = .ok (.goto (-26), 3) := by decide +kernel
theorem dX4_mixPair_90 : decode cX4_mixPair 90 = .ok (.lload 6, 2) := by decide +kernel
theorem dX4_mixPair_92 : decode cX4_mixPair 92 = .ok (.lreturn, 1) := by decide +kernel
theorem dX4_needArgument_0 : decode cX4_needArgument 0 = .ok (.iload_n 0, 1) := by decide +kernel
theorem dX4_needArgument_1 : decode cX4_needArgument 1 = .ok (.ifCond .ne 13, 3) := by decide +kernel
theorem dX4_needArgument_4 : decode cX4_needArgument 4 = .ok (.new 227, 3) := by decide +kernel
theorem dX4_needArgument_7 : decode cX4_needArgument 7 = .ok (.dup, 1) := by decide +kernel
theorem dX4_needArgument_8 : decode cX4_needArgument 8 = .ok (.ldc 229, 2) := by decide +kernel
theorem dX4_needArgument_10 : decode cX4_needArgument 10 = .ok (.invokespecial 231, 3) := by decide +kernel
theorem dX4_needArgument_13 : decode cX4_needArgument 13 = .ok (.athrow, 1) := by decide +kernel
theorem dX4_needArgument_14 : decode cX4_needArgument 14 = .ok (.return_, 1) := by decide +kernel
theorem dX4_needState_0 : decode cX4_needState 0 = .ok (.iload_n 0, 1) := by decide +kernel
theorem dX4_needState_1 : decode cX4_needState 1 = .ok (.ifCond .ne 13, 3) := by decide +kernel
theorem dX4_needState_4 : decode cX4_needState 4 = .ok (.new 234, 3) := by decide +kernel
theorem dX4_needState_7 : decode cX4_needState 7 = .ok (.dup, 1) := by decide +kernel
theorem dX4_needState_8 : decode cX4_needState 8 = .ok (.ldc 236, 2) := by decide +kernel
theorem dX4_needState_10 : decode cX4_needState 10 = .ok (.invokespecial 238, 3) := by decide +kernel
theorem dX4_needState_13 : decode cX4_needState 13 = .ok (.athrow, 1) := by decide +kernel
theorem dX4_needState_14 : decode cX4_needState 14 = .ok (.return_, 1) := by decide +kernel
theorem dX4_inSlot_0 : decode cX4_inSlot 0 = .ok (.iload_n 1, 1) := by decide +kernel
theorem dX4_inSlot_1 : decode cX4_inSlot 1 = .ok (.ifCond .lt 21, 3) := by decide +kernel
theorem dX4_inSlot_4 : decode cX4_inSlot 4 = .ok (.iload_n 1, 1) := by decide +kernel
theorem dX4_inSlot_5 : decode cX4_inSlot 5 = .ok (.aload_n 0, 1) := by decide +kernel
theorem dX4_inSlot_6 : decode cX4_inSlot 6 = .ok (.getfield 11, 3) := by decide +kernel
theorem dX4_inSlot_9 : decode cX4_inSlot 9 = .ok (.arraylength, 1) := by decide +kernel
theorem dX4_inSlot_10 : decode cX4_inSlot 10 = .ok (.if_icmp .ge 12, 3) := by decide +kernel
theorem dX4_inSlot_13 : decode cX4_inSlot 13 = .ok (.aload_n 0, 1) := by decide +kernel
theorem dX4_inSlot_14 : decode cX4_inSlot 14 = .ok (.getfield 11, 3) := by decide +kernel
theorem dX4_inSlot_17 : decode cX4_inSlot 17 = .ok (.iload_n 1, 1) := by decide +kernel
theorem dX4_inSlot_18 : decode cX4_inSlot 18 = .ok (.aaload, 1) := by decide +kernel
theorem dX4_inSlot_19 : decode cX4_inSlot 19 = .ok (.ifnonnull 13, 3) := by decide +kernel
theorem dX4_inSlot_22 : decode cX4_inSlot 22 = .ok (.new 239, 3) := by decide +kernel
theorem dX4_inSlot_25 : decode cX4_inSlot 25 = .ok (.dup, 1) := by decide +kernel
theorem dX4_inSlot_26 : decode cX4_inSlot 26 = .ok (.ldc 241, 2) := by decide +kernel
theorem dX4_inSlot_28 : decode cX4_inSlot 28 = .ok (.invokespecial 243, 3) := by decide +kernel
theorem dX4_inSlot_31 : decode cX4_inSlot 31 = .ok (.athrow, 1) := by decide +kernel
theorem dX4_inSlot_32 : decode cX4_inSlot 32 = .ok (.aload_n 0, 1) := by decide +kernel
theorem dX4_inSlot_33 : decode cX4_inSlot 33 = .ok (.getfield 11, 3) := by decide +kernel
theorem dX4_inSlot_36 : decode cX4_inSlot 36 = .ok (.iload_n 1, 1) := by decide +kernel
theorem dX4_inSlot_37 : decode cX4_inSlot 37 = .ok (.aaload, 1) := by decide +kernel
theorem dX4_inSlot_38 : decode cX4_inSlot 38 = .ok (.areturn, 1) := by decide +kernel
set_option maxRecDepth 20000 in
theorem ggX4_inSlotWithSteps_X4_inSlot : GoodIn wsX4_inSlotWithSteps wsX4_inSlot := goodIn_ca (goodIn_r _ [6, 7, 8, 9, 48, 49, 50, 51, 52] (by decide +kernel) (by decide +kernel)) (goodIn_sub (fun _ h => List.mem_cons_of_mem _ (List.mem_append_left _ (List.mem_append_left _ (List.mem_append_right _ h)))) (by decide +kernel))
set_option maxRecDepth 20000 in
theorem gX4_inSlotWithSteps_X4_inSlot : GoodIn wsX4_inSlotWithSteps (wsV RX4 56 RX4 yX4_inSlot wsX4_inSlot) := goodIn_app (goodIn_of _ (by decide +kernel)) ggX4_inSlotWithSteps_X4_inSlot
set_option maxRecDepth 20000 in
theorem ggX4_inSlotWithSteps_X4_needState : GoodIn wsX4_inSlotWithSteps wsX4_needState := goodIn_ca (goodIn_r _ [12, 13, 14] (by decide +kernel) (by decide +kernel)) (goodIn_sub (fun _ h => List.mem_cons_of_mem _ (List.mem_append_left _ (List.mem_append_right _ h))) (by decide +kernel))
set_option maxRecDepth 20000 in
theorem gX4_inSlotWithSteps_X4_needState : GoodIn wsX4_inSlotWithSteps (va_wsS RX4 45 yX4_needState wsX4_needState) := goodIn_app (goodIn_of _ (by decide +kernel)) ggX4_inSlotWithSteps_X4_needState
set_option maxRecDepth 20000 in
theorem ggX4_inSlotWithSteps_X3_area : GoodIn wsX4_inSlotWithSteps wsX3_area := goodIn_r _ [19, 20, 21, 22, 23, 24, 25, 26, 27, 33, 34, 35, 36, 37, 38, 39, 40, 41, 42, 43, 44, 45, 46, 47, 53, 54, 55] (by decide +kernel) (by decide +kernel)
set_option maxRecDepth 20000 in
theorem gX4_inSlotWithSteps_X3_area : GoodIn wsX4_inSlotWithSteps (wsV RX4 94 RX3 yX3_area wsX3_area) := goodIn_app (goodIn_of _ (by decide +kernel)) ggX4_inSlotWithSteps_X3_area
set_option maxRecDepth 20000 in
theorem ggX4_inSlotWithSteps_X4_needArgument : GoodIn wsX4_inSlotWithSteps wsX4_needArgument := goodIn_ca (goodIn_r _ [30, 31, 32] (by decide +kernel) (by decide +kernel)) (goodIn_sub (fun _ h => List.mem_cons_of_mem _ (List.mem_append_right _ h)) (by decide +kernel))
set_option maxRecDepth 20000 in
theorem gX4_inSlotWithSteps_X4_needArgument : GoodIn wsX4_inSlotWithSteps (va_wsS RX4 37 yX4_needArgument wsX4_needArgument) := goodIn_app (goodIn_of _ (by decide +kernel)) ggX4_inSlotWithSteps_X4_needArgument
theorem dX4_inSlotWithSteps_0 : decode cX4_inSlotWithSteps 0 = .ok (.aload_n 0, 1) := by decide +kernel
theorem dX4_inSlotWithSteps_1 : decode cX4_inSlotWithSteps 1 = .ok (.iload_n 1, 1) := by decide +kernel
theorem dX4_inSlotWithSteps_2 : decode cX4_inSlotWithSteps 2 = .ok (.invokevirtual 56, 3) := by decide +kernel
theorem dX4_inSlotWithSteps_5 : decode cX4_inSlotWithSteps 5 = .ok (.astore_n 3, 1) := by decide +kernel
theorem dX4_inSlotWithSteps_6 : decode cX4_inSlotWithSteps 6 = .ok (.aload_n 3, 1) := by decide +kernel
theorem dX4_inSlotWithSteps_7 : decode cX4_inSlotWithSteps 7 = .ok (.getfield 100, 3) := by decide +kernel
theorem dX4_inSlotWithSteps_10 : decode cX4_inSlotWithSteps 10 = .ok (.invokestatic 45, 3) := by decide +kernel
theorem dX4_inSlotWithSteps_13 : decode cX4_inSlotWithSteps 13 = .ok (.iload_n 2, 1) := by decide +kernel
theorem dX4_inSlotWithSteps_14 : decode cX4_inSlotWithSteps 14 = .ok (.ifCond .lt 15, 3) := by decide +kernel
theorem dX4_inSlotWithSteps_17 : decode cX4_inSlotWithSteps 17 = .ok (.iload_n 2, 1) := by decide +kernel
theorem dX4_inSlotWithSteps_18 : decode cX4_inSlotWithSteps 18 = .ok (.aload_n 3, 1) := by decide +kernel
theorem dX4_inSlotWithSteps_19 : decode cX4_inSlotWithSteps 19 = .ok (.invokevirtual 94, 3) := by decide +kernel
theorem dX4_inSlotWithSteps_22 : decode cX4_inSlotWithSteps 22 = .ok (.if_icmp .gt 7, 3) := by decide +kernel
theorem dX4_inSlotWithSteps_25 : decode cX4_inSlotWithSteps 25 = .ok (.iconst 1, 1) := by decide +kernel
theorem dX4_inSlotWithSteps_26 : decode cX4_inSlotWithSteps 26 = .ok (.goto 4, 3) := by decide +kernel
theorem dX4_inSlotWithSteps_29 : decode cX4_inSlotWithSteps 29 = .ok (.iconst 0, 1) := by decide +kernel
theorem dX4_inSlotWithSteps_30 : decode cX4_inSlotWithSteps 30 = .ok (.invokestatic 37, 3) := by decide +kernel
theorem dX4_inSlotWithSteps_33 : decode cX4_inSlotWithSteps 33 = .ok (.aload_n 3, 1) := by decide +kernel
theorem dX4_inSlotWithSteps_34 : decode cX4_inSlotWithSteps 34 = .ok (.areturn, 1) := by decide +kernel
theorem dX4_isComponent_0 : decode cX4_isComponent 0 = .ok (.iload_n 0, 1) := by decide +kernel
theorem dX4_isComponent_1 : decode cX4_isComponent 1 = .ok (.bipush (-8), 2) := by decide +kernel
theorem dX4_isComponent_3 : decode cX4_isComponent 3 = .ok (.if_icmp .lt 13, 3) := by decide +kernel
theorem dX4_isComponent_6 : decode cX4_isComponent 6 = .ok (.iload_n 0, 1) := by decide +kernel
theorem dX4_isComponent_7 : decode cX4_isComponent 7 = .ok (.bipush 8, 2) := by decide +kernel
theorem dX4_isComponent_9 : decode cX4_isComponent 9 = .ok (.if_icmp .gt 7, 3) := by decide +kernel
theorem dX4_isComponent_12 : decode cX4_isComponent 12 = .ok (.iconst 1, 1) := by decide +kernel
theorem dX4_isComponent_13 : decode cX4_isComponent 13 = .ok (.goto 4, 3) := by decide +kernel
theorem dX4_isComponent_16 : decode cX4_isComponent 16 = .ok (.iconst 0, 1) := by decide +kernel
theorem dX4_isComponent_17 : decode cX4_isComponent 17 = .ok (.ireturn, 1) := by decide +kernel
theorem dX4_isArea_0 : decode cX4_isArea 0 = .ok (.iload_n 0, 1) := by decide +kernel
theorem dX4_isArea_1 : decode cX4_isArea 1 = .ok (.iconst 1, 1) := by decide +kernel
theorem dX4_isArea_2 : decode cX4_isArea 2 = .ok (.if_icmp .lt 13, 3) := by decide +kernel
theorem dX4_isArea_5 : decode cX4_isArea 5 = .ok (.iload_n 0, 1) := by decide +kernel
theorem dX4_isArea_6 : decode cX4_isArea 6 = .ok (.bipush 64, 2) := by decide +kernel
theorem dX4_isArea_8 : decode cX4_isArea 8 = .ok (.if_icmp .gt 7, 3) := by decide +kernel
theorem dX4_isArea_11 : decode cX4_isArea 11 = .ok (.iconst 1, 1) := by decide +kernel
theorem dX4_isArea_12 : decode cX4_isArea 12 = .ok (.goto 4, 3) := by decide +kernel
theorem dX4_isArea_15 : decode cX4_isArea 15 = .ok (.iconst 0, 1) := by decide +kernel
theorem dX4_isArea_16 : decode cX4_isArea 16 = .ok (.ireturn, 1) := by decide +kernel
theorem dX4_isPosition_0 : decode cX4_isPosition 0 = .ok (.iload_n 0, 1) := by decide +kernel
theorem dX4_isPosition_1 : decode cX4_isPosition 1 = .ok (.sipush (-10000), 3) := by decide +kernel
theorem dX4_isPosition_4 : decode cX4_isPosition 4 = .ok (.if_icmp .lt 14, 3) := by decide +kernel
theorem dX4_isPosition_7 : decode cX4_isPosition 7 = .ok (.iload_n 0, 1) := by decide +kernel
theorem dX4_isPosition_8 : decode cX4_isPosition 8 = .ok (.sipush 10000, 3) := by decide +kernel
theorem dX4_isPosition_11 : decode cX4_isPosition 11 = .ok (.if_icmp .gt 7, 3) := by decide +kernel
theorem dX4_isPosition_14 : decode cX4_isPosition 14 = .ok (.iconst 1, 1) := by decide +kernel
theorem dX4_isPosition_15 : decode cX4_isPosition 15 = .ok (.goto 4, 3) := by decide +kernel
theorem dX4_isPosition_18 : decode cX4_isPosition 18 = .ok (.iconst 0, 1) := by decide +kernel
theorem dX4_isPosition_19 : decode cX4_isPosition 19 = .ok (.ireturn, 1) := by decide +kernel
theorem dX4_isSide_0 : decode cX4_isSide 0 = .ok (.iload_n 0, 1) := by decide +kernel
theorem dX4_isSide_1 : decode cX4_isSide 1 = .ok (.iconst 1, 1) := by decide +kernel
theorem dX4_isSide_2 : decode cX4_isSide 2 = .ok (.if_icmp .lt 13, 3) := by decide +kernel
theorem dX4_isSide_5 : decode cX4_isSide 5 = .ok (.iload_n 0, 1) := by decide +kernel
theorem dX4_isSide_6 : decode cX4_isSide 6 = .ok (.bipush 64, 2) := by decide +kernel
theorem dX4_isSide_8 : decode cX4_isSide 8 = .ok (.if_icmp .gt 7, 3) := by decide +kernel
theorem dX4_isSide_11 : decode cX4_isSide 11 = .ok (.iconst 1, 1) := by decide +kernel
theorem dX4_isSide_12 : decode cX4_isSide 12 = .ok (.goto 4, 3) := by decide +kernel
theorem dX4_isSide_15 : decode cX4_isSide 15 = .ok (.iconst 0, 1) := by decide +kernel
theorem dX4_isSide_16 : decode cX4_isSide 16 = .ok (.ireturn, 1) := by decide +kernel
theorem dX4_presentSlots_0 : decode cX4_presentSlots 0 = .ok (.iconst 0, 1) := by decide +kernel
theorem dX4_presentSlots_1 : decode cX4_presentSlots 1 = .ok (.istore_n 1, 1) := by decide +kernel
theorem dX4_presentSlots_2 : decode cX4_presentSlots 2 = .ok (.iconst 0, 1) := by decide +kernel
theorem dX4_presentSlots_3 : decode cX4_presentSlots 3 = .ok (.istore_n 2, 1) := by decide +kernel
theorem dX4_presentSlots_4 : decode cX4_presentSlots 4 = .ok (.iload_n 2, 1) := by decide +kernel
theorem dX4_presentSlots_5 : decode cX4_presentSlots 5 = .ok (.aload_n 0, 1) := by decide +kernel
theorem dX4_presentSlots_6 : decode cX4_presentSlots 6 = .ok (.getfield 11, 3) := by decide +kernel
theorem dX4_presentSlots_9 : decode cX4_presentSlots 9 = .ok (.arraylength, 1) := by decide +kernel
theorem dX4_presentSlots_10 : decode cX4_presentSlots 10 = .ok (.if_icmp .ge 36, 3) := by decide +kernel
theorem dX4_presentSlots_13 : decode cX4_presentSlots 13 = .ok (.aload_n 0, 1) := by decide +kernel
theorem dX4_presentSlots_14 : decode cX4_presentSlots 14 = .ok (.getfield 11, 3) := by decide +kernel
theorem dX4_presentSlots_17 : decode cX4_presentSlots 17 = .ok (.iload_n 2, 1) := by decide +kernel
theorem dX4_presentSlots_18 : decode cX4_presentSlots 18 = .ok (.aaload, 1) := by decide +kernel
theorem dX4_presentSlots_19 : decode cX4_presentSlots 19 = .ok (.ifnull 21, 3) := by decide +kernel
theorem dX4_presentSlots_22 : decode cX4_presentSlots 22 = .ok (.aload_n 0, 1) := by decide +kernel
theorem dX4_presentSlots_23 : decode cX4_presentSlots 23 = .ok (.getfield 11, 3) := by decide +kernel
theorem dX4_presentSlots_26 : decode cX4_presentSlots 26 = .ok (.iload_n 2, 1) := by decide +kernel
theorem dX4_presentSlots_27 : decode cX4_presentSlots 27 = .ok (.aaload, 1) := by decide +kernel
theorem dX4_presentSlots_28 : decode cX4_presentSlots 28 = .ok (.getfield 100, 3) := by decide +kernel
theorem dX4_presentSlots_31 : decode cX4_presentSlots 31 = .ok (.ifCond .eq 9, 3) := by decide +kernel
theorem dX4_presentSlots_34 : decode cX4_presentSlots 34 = .ok (.iload_n 1, 1) := by decide +kernel
theorem dX4_presentSlots_35 : decode cX4_presentSlots 35 = .ok (.iconst 1, 1) := by decide +kernel
theorem dX4_presentSlots_36 : decode cX4_presentSlots 36 = .ok (.iload_n 2, 1) := by decide +kernel
theorem dX4_presentSlots_37 : decode cX4_presentSlots 37 = .ok (.ishl, 1) := by decide +kernel
theorem dX4_presentSlots_38 : decode cX4_presentSlots 38 = .ok (.ior, 1) := by decide +kernel
theorem dX4_presentSlots_39 : decode cX4_presentSlots 39 = .ok (.istore_n 1, 1) := by decide +kernel
theorem dX4_presentSlots_40 : decode cX4_presentSlots 40 = .ok (.iinc 2 1, 3) := by decide +kernel
theorem dX4_presentSlots_43 : decode cX4_presentSlots 43 = .ok (.goto (-39), 3) := by decide +kernel
theorem dX4_presentSlots_46 : decode cX4_presentSlots 46 = .ok (.iload_n 1, 1) := by decide +kernel
theorem dX4_presentSlots_47 : decode cX4_presentSlots 47 = .ok (.ireturn, 1) := by decide +kernel
set_option maxRecDepth 20000 in
theorem ggX4_inksOf_X3_inks : GoodIn wsX4_inksOf wsX3_inks := goodIn_r _ [7, 8, 9, 10, 11, 12, 13, 14, 15, 16, 17, 18, 19, 20, 21, 22, 23, 24, 25, 26, 27, 28, 29, 30, 31, 32, 6, 33, 34, 35, 36, 42, 43, 44, 45, 46, 47, 48, 49, 50, 51, 52, 53, 54, 55, 56, 57, 58, 59] (by decide +kernel) (by decide +kernel)
set_option maxRecDepth 20000 in
theorem gX4_inksOf_X3_inks : GoodIn wsX4_inksOf (wsV RX4 155 RX3 yX3_inks wsX3_inks) := goodIn_app (goodIn_of _ (by decide +kernel)) ggX4_inksOf_X3_inks
theorem dX4_inksOf_0 : decode cX4_inksOf 0 = .ok (.iconst 0, 1) := by decide +kernel
theorem dX4_inksOf_1 : decode cX4_inksOf 1 = .ok (.istore_n 3, 1) := by decide +kernel
theorem dX4_inksOf_2 : decode cX4_inksOf 2 = .ok (.iconst 0, 1) := by decide +kernel
theorem dX4_inksOf_3 : decode cX4_inksOf 3 = .ok (.istore 4, 2) := by decide +kernel
theorem dX4_inksOf_5 : decode cX4_inksOf 5 = .ok (.iload 4, 2) := by decide +kernel
theorem dX4_inksOf_7 : decode cX4_inksOf 7 = .ok (.aload_n 0, 1) := by decide +kernel
theorem dX4_inksOf_8 : decode cX4_inksOf 8 = .ok (.getfield 11, 3) := by decide +kernel
theorem dX4_inksOf_11 : decode cX4_inksOf 11 = .ok (.arraylength, 1) := by decide +kernel
theorem dX4_inksOf_12 : decode cX4_inksOf 12 = .ok (.if_icmp .ge 48, 3) := by decide +kernel
theorem dX4_inksOf_15 : decode cX4_inksOf 15 = .ok (.aload_n 0, 1) := by decide +kernel
theorem dX4_inksOf_16 : decode cX4_inksOf 16 = .ok (.getfield 11, 3) := by decide +kernel
theorem dX4_inksOf_19 : decode cX4_inksOf 19 = .ok (.iload 4, 2) := by decide +kernel
theorem dX4_inksOf_21 : decode cX4_inksOf 21 = .ok (.aaload, 1) := by decide +kernel
theorem dX4_inksOf_22 : decode cX4_inksOf 22 = .ok (.astore 5, 2) := by decide +kernel
theorem dX4_inksOf_24 : decode cX4_inksOf 24 = .ok (.aload 5, 2) := by decide +kernel
theorem dX4_inksOf_26 : decode cX4_inksOf 26 = .ok (.ifnull 28, 3) := by decide +kernel
theorem dX4_inksOf_29 : decode cX4_inksOf 29 = .ok (.aload 5, 2) := by decide +kernel
theorem dX4_inksOf_31 : decode cX4_inksOf 31 = .ok (.getfield 100, 3) := by decide +kernel
theorem dX4_inksOf_34 : decode cX4_inksOf 34 = .ok (.ifCond .eq 20, 3) := by decide +kernel
theorem dX4_inksOf_37 : decode cX4_inksOf 37 = .ok (.aload 5, 2) := by decide +kernel
theorem dX4_inksOf_39 : decode cX4_inksOf 39 = .ok (.iload_n 1, 1) := by decide +kernel
theorem dX4_inksOf_40 : decode cX4_inksOf 40 = .ok (.iload_n 2, 1) := by decide +kernel
theorem dX4_inksOf_41 : decode cX4_inksOf 41 = .ok (.invokevirtual 155, 3) := by decide +kernel
theorem dX4_inksOf_44 : decode cX4_inksOf 44 = .ok (.ifCond .eq 10, 3) := by decide +kernel
theorem dX4_inksOf_47 : decode cX4_inksOf 47 = .ok (.iload_n 3, 1) := by decide +kernel
theorem dX4_inksOf_48 : decode cX4_inksOf 48 = .ok (.iconst 1, 1) := by decide +kernel
theorem dX4_inksOf_49 : decode cX4_inksOf 49 = .ok (.iload 4, 2) := by decide +kernel
theorem dX4_inksOf_51 : decode cX4_inksOf 51 = .ok (.ishl, 1) := by decide +kernel
theorem dX4_inksOf_52 : decode cX4_inksOf 52 = .ok (.ior, 1) := by decide +kernel
theorem dX4_inksOf_53 : decode cX4_inksOf 53 = .ok (.istore_n 3, 1) := by decide +kernel
theorem dX4_inksOf_54 : decode cX4_inksOf 54 = .ok (.iinc 4 1, 3) := by decide +kernel
theorem dX4_inksOf_57 : decode cX4_inksOf 57 = .ok (.goto (-52), 3) := by decide +kernel
theorem dX4_inksOf_60 : decode cX4_inksOf 60 = .ok (.iload_n 3, 1) := by decide +kernel
theorem dX4_inksOf_61 : decode cX4_inksOf 61 = .ok (.ireturn, 1) := by decide +kernel
set_option maxRecDepth 20000 in
theorem ggX4_findPeriod_X2_span : GoodIn wsX4_findPeriod wsX2_span := goodIn_r _ [8, 9, 10, 11, 12, 13, 14, 15, 16, 17, 18, 19, 20, 21, 22, 23, 24, 25, 26, 27, 52, 53, 54] (by decide +kernel) (by decide +kernel)
set_option maxRecDepth 20000 in
theorem gX4_findPeriod_X2_span : GoodIn wsX4_findPeriod (wsV RX4 244 RX2 yX2_span wsX2_span) := goodIn_app (goodIn_of _ (by decide +kernel)) ggX4_findPeriod_X2_span
set_option maxRecDepth 20000 in
theorem ggX4_findPeriod_X2_keepCommon : GoodIn wsX4_findPeriod wsX2_keepCommon := goodIn_r _ [31, 9, 14, 15, 19, 17, 20, 21, 11, 12, 13, 16, 18, 22, 23, 24, 25, 26, 27, 52, 53, 54] (by decide +kernel) (by decide +kernel)
set_option maxRecDepth 20000 in
theorem gX4_findPeriod_X2_keepCommon : GoodIn wsX4_findPeriod (wsV RX4 248 RX2 yX2_keepCommon wsX2_keepCommon) := goodIn_app (goodIn_of _ (by decide +kernel)) ggX4_findPeriod_X2_keepCommon
theorem dX4_findPeriod_0 : decode cX4_findPeriod 0 = .ok (.aload_n 0, 1) := by decide +kernel
theorem dX4_findPeriod_1 : decode cX4_findPeriod 1 = .ok (.getfield 32, 3) := by decide +kernel
theorem dX4_findPeriod_4 : decode cX4_findPeriod 4 = .ok (.iconst 1, 1) := by decide +kernel
theorem dX4_findPeriod_5 : decode cX4_findPeriod 5 = .ok (.iconst 0, 1) := by decide +kernel
theorem dX4_findPeriod_6 : decode cX4_findPeriod 6 = .ok (.iconst 0, 1) := by decide +kernel
theorem dX4_findPeriod_7 : decode cX4_findPeriod 7 = .ok (.iconst 1, 1) := by decide +kernel
theorem dX4_findPeriod_8 : decode cX4_findPeriod 8 = .ok (.iconst 0, 1) := by decide +kernel
theorem dX4_findPeriod_9 : decode cX4_findPeriod 9 = .ok (.invokevirtual 244, 3) := by decide +kernel
theorem dX4_findPeriod_12 : decode cX4_findPeriod 12 = .ok (.iconst 0, 1) := by decide +kernel
theorem dX4_findPeriod_13 : decode cX4_findPeriod 13 = .ok (.istore_n 2, 1) := by decide +kernel
theorem dX4_findPeriod_14 : decode cX4_findPeriod 14 = .ok (.iload_n 2, 1) := by decide +kernel
theorem dX4_findPeriod_15 : decode cX4_findPeriod 15 = .ok (.aload_n 0, 1) := by decide +kernel
theorem dX4_findPeriod_16 : decode cX4_findPeriod 16 = .ok (.getfield 11, 3) := by decide +kernel
theorem dX4_findPeriod_19 : decode cX4_findPeriod 19 = .ok (.arraylength, 1) := by decide +kernel
theorem dX4_findPeriod_20 : decode cX4_findPeriod 20 = .ok (.if_icmp .ge 43, 3) := by decide +kernel
theorem dX4_findPeriod_23 : decode cX4_findPeriod 23 = .ok (.iload_n 1, 1) := by decide +kernel
theorem dX4_findPeriod_24 : decode cX4_findPeriod 24 = .ok (.iload_n 2, 1) := by decide +kernel
theorem dX4_findPeriod_25 : decode cX4_findPeriod 25 = .ok (.ishr, 1) := by decide +kernel
theorem dX4_findPeriod_26 : decode cX4_findPeriod 26 = .ok (.iconst 1, 1) := by decide +kernel
theorem dX4_findPeriod_27 : decode cX4_findPeriod 27 = .ok (.iand, 1) := by decide +kernel
theorem dX4_findPeriod_28 : decode cX4_findPeriod 28 = .ok (.iconst 1, 1) := by decide +kernel
theorem dX4_findPeriod_29 : decode cX4_findPeriod 29 = .ok (.if_icmp .ne 28, 3) := by decide +kernel
theorem dX4_findPeriod_32 : decode cX4_findPeriod 32 = .ok (.aload_n 0, 1) := by decide +kernel
theorem dX4_findPeriod_33 : decode cX4_findPeriod 33 = .ok (.getfield 11, 3) := by decide +kernel
theorem dX4_findPeriod_36 : decode cX4_findPeriod 36 = .ok (.iload_n 2, 1) := by decide +kernel
theorem dX4_findPeriod_37 : decode cX4_findPeriod 37 = .ok (.aaload, 1) := by decide +kernel
theorem dX4_findPeriod_38 : decode cX4_findPeriod 38 = .ok (.ifnull 19, 3) := by decide +kernel
theorem dX4_findPeriod_41 : decode cX4_findPeriod 41 = .ok (.aload_n 0, 1) := by decide +kernel
theorem dX4_findPeriod_42 : decode cX4_findPeriod 42 = .ok (.getfield 32, 3) := by decide +kernel
theorem dX4_findPeriod_45 : decode cX4_findPeriod 45 = .ok (.aload_n 0, 1) := by decide +kernel
theorem dX4_findPeriod_46 : decode cX4_findPeriod 46 = .ok (.getfield 11, 3) := by decide +kernel
theorem dX4_findPeriod_49 : decode cX4_findPeriod 49 = .ok (.iload_n 2, 1) := by decide +kernel
theorem dX4_findPeriod_50 : decode cX4_findPeriod 50 = .ok (.aaload, 1) := by decide +kernel
theorem dX4_findPeriod_51 : decode cX4_findPeriod 51 = .ok (.getfield 130, 3) := by decide +kernel
theorem dX4_findPeriod_54 : decode cX4_findPeriod 54 = .ok (.invokevirtual 248, 3) := by decide +kernel
theorem dX4_findPeriod_57 : decode cX4_findPeriod 57 = .ok (.iinc 2 1, 3) := by decide +kernel
theorem dX4_findPeriod_60 : decode cX4_findPeriod 60 = .ok (.goto (-46), 3) := by decide +kernel
theorem dX4_findPeriod_63 : decode cX4_findPeriod 63 = .ok (.return_, 1) := by decide +kernel
theorem dX4_isNearer_0 : decode cX4_isNearer 0 = .ok (.iload_n 0, 1) := by decide +kernel
theorem dX4_isNearer_1 : decode cX4_isNearer 1 = .ok (.iload 4, 2) := by decide +kernel
theorem dX4_isNearer_3 : decode cX4_isNearer 3 = .ok (.imul, 1) := by decide +kernel
theorem dX4_isNearer_4 : decode cX4_isNearer 4 = .ok (.iload_n 1, 1) := by decide +kernel
theorem dX4_isNearer_5 : decode cX4_isNearer 5 = .ok (.iload 5, 2) := by decide +kernel
theorem dX4_isNearer_7 : decode cX4_isNearer 7 = .ok (.imul, 1) := by decide +kernel
theorem dX4_isNearer_8 : decode cX4_isNearer 8 = .ok (.isub, 1) := by decide +kernel
theorem dX4_isNearer_9 : decode cX4_isNearer 9 = .ok (.invokestatic 172, 3) := by decide +kernel
theorem dX4_isNearer_12 : decode cX4_isNearer 12 = .ok (.i2l, 1) := by decide +kernel
theorem dX4_isNearer_13 : decode cX4_isNearer 13 = .ok (.lstore 6, 2) := by decide +kernel
theorem dX4_isNearer_15 : decode cX4_isNearer 15 = .ok (.iload_n 2, 1) := by decide +kernel
theorem dX4_isNearer_16 : decode cX4_isNearer 16 = .ok (.iload 4, 2) := by decide +kernel
theorem dX4_isNearer_18 : decode cX4_isNearer 18 = .ok (.imul, 1) := by decide +kernel
theorem dX4_isNearer_19 : decode cX4_isNearer 19 = .ok (.iload_n 3, 1) := by decide +kernel
theorem dX4_isNearer_20 : decode cX4_isNearer 20 = .ok (.iload 5, 2) := by decide +kernel
theorem dX4_isNearer_22 : decode cX4_isNearer 22 = .ok (.imul, 1) := by decide +kernel
theorem dX4_isNearer_23 : decode cX4_isNearer 23 = .ok (.isub, 1) := by decide +kernel
theorem dX4_isNearer_24 : decode cX4_isNearer 24 = .ok (.invokestatic 172, 3) := by decide +kernel
theorem dX4_isNearer_27 : decode cX4_isNearer 27 = .ok (.i2l, 1) := by decide +kernel
theorem dX4_isNearer_28 : decode cX4_isNearer 28 = .ok (.lstore 8, 2) := by decide +kernel
theorem dX4_isNearer_30 : decode cX4_isNearer 30 = .ok (.iload_n 0, 1) := by decide +kernel
theorem dX4_isNearer_31 : decode cX4_isNearer 31 = .ok (.iload_n 0, 1) := by decide +kernel
theorem dX4_isNearer_32 : decode cX4_isNearer 32 = .ok (.imul, 1) := by decide +kernel
theorem dX4_isNearer_33 : decode cX4_isNearer 33 = .ok (.iload_n 1, 1) := by decide +kernel
theorem dX4_isNearer_34 : decode cX4_isNearer 34 = .ok (.iload_n 1, 1) := by decide +kernel
theorem dX4_isNearer_35 : decode cX4_isNearer 35 = .ok (.imul, 1) := by decide +kernel
theorem dX4_isNearer_36 : decode cX4_isNearer 36 = .ok (.iadd, 1) := by decide +kernel
theorem dX4_isNearer_37 : decode cX4_isNearer 37 = .ok (.istore 10, 2) := by decide +kernel
theorem dX4_isNearer_39 : decode cX4_isNearer 39 = .ok (.iload_n 2, 1) := by decide +kernel
theorem dX4_isNearer_40 : decode cX4_isNearer 40 = .ok (.iload_n 2, 1) := by decide +kernel
theorem dX4_isNearer_41 : decode cX4_isNearer 41 = .ok (.imul, 1) := by decide +kernel
theorem dX4_isNearer_42 : decode cX4_isNearer 42 = .ok (.iload_n 3, 1) := by decide +kernel
theorem dX4_isNearer_43 : decode cX4_isNearer 43 = .ok (.iload_n 3, 1) := by decide +kernel
theorem dX4_isNearer_44 : decode cX4_isNearer 44 = .ok (.imul, 1) := by decide +kernel
theorem dX4_isNearer_45 : decode cX4_isNearer 45 = .ok (.iadd, 1) := by decide +kernel
theorem dX4_isNearer_46 : decode cX4_isNearer 46 = .ok (.istore 11, 2) := by decide +kernel
theorem dX4_isNearer_48 : decode cX4_isNearer 48 = .ok (.lload 6, 2) := by decide +kernel
theorem dX4_isNearer_50 : decode cX4_isNearer 50 = .ok (.lload 6, 2) := by decide +kernel
theorem dX4_isNearer_52 : decode cX4_isNearer 52 = .ok (.lmul, 1) := by decide +kernel
theorem dX4_isNearer_53 : decode cX4_isNearer 53 = .ok (.iload 11, 2) := by decide +kernel
theorem dX4_isNearer_55 : decode cX4_isNearer 55 = .ok (.i2l, 1) := by decide +kernel
theorem dX4_isNearer_56 : decode cX4_isNearer 56 = .ok (.lmul, 1) := by decide +kernel
theorem dX4_isNearer_57 : decode cX4_isNearer 57 = .ok (.lstore 12, 2) := by decide +kernel
theorem dX4_isNearer_59 : decode cX4_isNearer 59 = .ok (.lload 8, 2) := by decide +kernel
theorem dX4_isNearer_61 : decode cX4_isNearer 61 = .ok (.lload 8, 2) := by decide +kernel
theorem dX4_isNearer_63 : decode cX4_isNearer 63 = .ok (.lmul, 1) := by decide +kernel
theorem dX4_isNearer_64 : decode cX4_isNearer 64 = .ok (.iload 10, 2) := by decide +kernel
theorem dX4_isNearer_66 : decode cX4_isNearer 66 = .ok (.i2l, 1) := by decide +kernel
theorem dX4_isNearer_67 : decode cX4_isNearer 67 = .ok (.lmul, 1) := by decide +kernel
theorem dX4_isNearer_68 : decode cX4_isNearer 68 = .ok (.lstore 14, 2) := by decide +kernel
theorem dX4_isNearer_70 : decode cX4_isNearer 70 = .ok (.lload 12, 2) := by decide +kernel
theorem dX4_isNearer_72 : decode cX4_isNearer 72 = .ok (.lload 14, 2) := by decide +kernel
theorem dX4_isNearer_74 : decode cX4_isNearer 74 = .ok (.lcmp, 1) := by decide +kernel
theorem dX4_isNearer_75 : decode cX4_isNearer 75 = .ok (.ifCond .eq 17, 3) := by decide +kernel
theorem dX4_isNearer_78 : decode cX4_isNearer 78 = .ok (.lload 12, 2) := by decide +kernel
theorem dX4_isNearer_80 : decode cX4_isNearer 80 = .ok (.lload 14, 2) := by decide +kernel
theorem dX4_isNearer_82 : decode cX4_isNearer 82 = .ok (.lcmp, 1) := by decide +kernel
theorem dX4_isNearer_83 : decode cX4_isNearer 83 = .ok (.ifCond .ge 7, 3) := by decide +kernel
theorem dX4_isNearer_86 : decode cX4_isNearer 86 = .ok (.iconst 1, 1) := by decide +kernel
theorem dX4_isNearer_87 : decode cX4_isNearer 87 = .ok (.goto 4, 3) := by decide +kernel
theorem dX4_isNearer_90 : decode cX4_isNearer 90 = .ok (.iconst 0, 1) := by decide +kernel
theorem dX4_isNearer_91 : decode cX4_isNearer 91 = .ok (.ireturn, 1) := by decide +kernel
theorem dX4_isNearer_92 : decode cX4_isNearer 92 = .ok (.iload 10, 2) := by decide +kernel
theorem dX4_isNearer_94 : decode cX4_isNearer 94 = .ok (.iload 11, 2) := by decide +kernel
theorem dX4_isNearer_96 : decode cX4_isNearer 96 = .ok (.if_icmp .eq 16, 3) := by decide +kernel
theorem dX4_isNearer_99 : decode cX4_isNearer 99 = .ok (.iload 10, 2) := by decide +kernel
theorem dX4_isNearer_101 : decode cX4_isNearer 101 = .ok (.iload 11, 2) := by decide +kernel
theorem dX4_isNearer_103 : decode cX4_isNearer 103 = .ok (.if_icmp .ge 7, 3) := by decide +kernel
theorem dX4_isNearer_106 : decode cX4_isNearer 106 = .ok (.iconst 1, 1) := by decide +kernel
theorem dX4_isNearer_107 : decode cX4_isNearer 107 = .ok (.goto 4, 3) := by decide +kernel
theorem dX4_isNearer_110 : decode cX4_isNearer 110 = .ok (.iconst 0, 1) := by decide +kernel
theorem dX4_isNearer_111 : decode cX4_isNearer 111 = .ok (.ireturn, 1) := by decide +kernel
theorem dX4_isNearer_112 : decode cX4_isNearer 112 = .ok (.iload_n 0, 1) := by decide +kernel
theorem dX4_isNearer_113 : decode cX4_isNearer 113 = .ok (.iload_n 2, 1) := by decide +kernel
theorem dX4_isNearer_114 : decode cX4_isNearer 114 = .ok (.if_icmp .ge 7, 3) := by decide +kernel
theorem dX4_isNearer_117 : decode cX4_isNearer 117 = .ok (.iconst 1, 1) := by decide +kernel
theorem dX4_isNearer_118 : decode cX4_isNearer 118 = .ok (.goto 4, 3) := by decide +kernel
theorem dX4_isNearer_121 : decode cX4_isNearer 121 = .ok (.iconst 0, 1) := by decide +kernel
theorem dX4_isNearer_122 : decode cX4_isNearer 122 = .ok (.ireturn, 1) := by decide +kernel
theorem dX4_areaOf_0 : decode cX4_areaOf 0 = .ok (.iload_n 0, 1) := by decide +kernel
theorem dX4_areaOf_1 : decode cX4_areaOf 1 = .ok (.iload_n 3, 1) := by decide +kernel
theorem dX4_areaOf_2 : decode cX4_areaOf 2 = .ok (.imul, 1) := by decide +kernel
theorem dX4_areaOf_3 : decode cX4_areaOf 3 = .ok (.iload_n 1, 1) := by decide +kernel
theorem dX4_areaOf_4 : decode cX4_areaOf 4 = .ok (.iload_n 2, 1) := by decide +kernel
theorem dX4_areaOf_5 : decode cX4_areaOf 5 = .ok (.imul, 1) := by decide +kernel
theorem dX4_areaOf_6 : decode cX4_areaOf 6 = .ok (.isub, 1) := by decide +kernel
theorem dX4_areaOf_7 : decode cX4_areaOf 7 = .ok (.invokestatic 172, 3) := by decide +kernel
theorem dX4_areaOf_10 : decode cX4_areaOf 10 = .ok (.ireturn, 1) := by decide +kernel
theorem dX4_at_0 : decode cX4_at 0 = .ok (.iload_n 1, 1) := by decide +kernel
theorem dX4_at_1 : decode cX4_at 1 = .ok (.ifCond .lt 15, 3) := by decide +kernel
theorem dX4_at_4 : decode cX4_at 4 = .ok (.iload_n 1, 1) := by decide +kernel
theorem dX4_at_5 : decode cX4_at 5 = .ok (.aload_n 0, 1) := by decide +kernel
theorem dX4_at_6 : decode cX4_at 6 = .ok (.arraylength, 1) := by decide +kernel
theorem dX4_at_7 : decode cX4_at 7 = .ok (.if_icmp .ge 9, 3) := by decide +kernel
theorem dX4_at_10 : decode cX4_at 10 = .ok (.aload_n 0, 1) := by decide +kernel
theorem dX4_at_11 : decode cX4_at 11 = .ok (.iload_n 1, 1) := by decide +kernel
theorem dX4_at_12 : decode cX4_at 12 = .ok (.iaload, 1) := by decide +kernel
theorem dX4_at_13 : decode cX4_at 13 = .ok (.goto 4, 3) := by decide +kernel
theorem dX4_at_16 : decode cX4_at 16 = .ok (.iconst 0, 1) := by decide +kernel
theorem dX4_at_17 : decode cX4_at 17 = .ok (.ireturn, 1) := by decide +kernel
theorem dX4_put_0 : decode cX4_put 0 = .ok (.iload_n 1, 1) := by decide +kernel
theorem dX4_put_1 : decode cX4_put 1 = .ok (.ifCond .lt 13, 3) := by decide +kernel
theorem dX4_put_4 : decode cX4_put 4 = .ok (.iload_n 1, 1) := by decide +kernel
theorem dX4_put_5 : decode cX4_put 5 = .ok (.aload_n 0, 1) := by decide +kernel
theorem dX4_put_6 : decode cX4_put 6 = .ok (.arraylength, 1) := by decide +kernel
theorem dX4_put_7 : decode cX4_put 7 = .ok (.if_icmp .ge 7, 3) := by decide +kernel
theorem dX4_put_10 : decode cX4_put 10 = .ok (.aload_n 0, 1) := by decide +kernel
theorem dX4_put_11 : decode cX4_put 11 = .ok (.iload_n 1, 1) := by decide +kernel
theorem dX4_put_12 : decode cX4_put 12 = .ok (.iload_n 2, 1) := by decide +kernel
theorem dX4_put_13 : decode cX4_put 13 = .ok (.iastore, 1) := by decide +kernel
theorem dX4_put_14 : decode cX4_put 14 = .ok (.return_, 1) := by decide +kernel
theorem dX4_div_0 : decode cX4_div 0 = .ok (.iload_n 1, 1) := by decide +kernel
theorem dX4_div_1 : decode cX4_div 1 = .ok (.ifCond .eq 9, 3) := by decide +kernel
theorem dX4_div_4 : decode cX4_div 4 = .ok (.iload_n 0, 1) := by decide +kernel
theorem dX4_div_5 : decode cX4_div 5 = .ok (.iload_n 1, 1) := by decide +kernel
theorem dX4_div_6 : decode cX4_div 6 = .ok (.idiv, 1) := by decide +kernel
theorem dX4_div_7 : decode cX4_div 7 = .ok (.goto 4, 3) := by decide +kernel
theorem dX4_div_10 : decode cX4_div 10 = .ok (.iconst 0, 1) := by decide +kernel
theorem dX4_div_11 : decode cX4_div 11 = .ok (.ireturn, 1) := by decide +kernel
set_option maxRecDepth 20000 in
theorem ggX4_floorDiv_J9_floorDiv_7cf53 : GoodIn wsX4_floorDiv wsJ9_floorDiv_7cf53 := goodIn_r _ [4] (by decide +kernel) (by decide +kernel)
set_option maxRecDepth 20000 in
theorem gX4_floorDiv_J9_floorDiv_7cf53 : GoodIn wsX4_floorDiv (va_wsS RX4 251 yJ9_floorDiv_7cf53 wsJ9_floorDiv_7cf53) := goodIn_app (goodIn_of _ (by decide +kernel)) ggX4_floorDiv_J9_floorDiv_7cf53
theorem dX4_floorDiv_0 : decode cX4_floorDiv 0 = .ok (.iload_n 1, 1) := by decide +kernel
theorem dX4_floorDiv_1 : decode cX4_floorDiv 1 = .ok (.ifCond .eq 11, 3) := by decide +kernel
theorem dX4_floorDiv_4 : decode cX4_floorDiv 4 = .ok (.iload_n 0, 1) := by decide +kernel
theorem dX4_floorDiv_5 : decode cX4_floorDiv 5 = .ok (.iload_n 1, 1) := by decide +kernel
theorem dX4_floorDiv_6 : decode cX4_floorDiv 6 = .ok (.invokestatic 251, 3) := by decide +kernel
theorem dX4_floorDiv_9 : decode cX4_floorDiv 9 = .ok (.goto 4, 3) := by decide +kernel
theorem dX4_floorDiv_12 : decode cX4_floorDiv 12 = .ok (.iconst 0, 1) := by decide +kernel
theorem dX4_floorDiv_13 : decode cX4_floorDiv 13 = .ok (.ireturn, 1) := by decide +kernel
set_option maxRecDepth 20000 in
theorem ggX4_mod_J9_floorMod_7cf53 : GoodIn wsX4_mod wsJ9_floorMod_7cf53 := goodIn_r _ [4] (by decide +kernel) (by decide +kernel)
set_option maxRecDepth 20000 in
theorem gX4_mod_J9_floorMod_7cf53 : GoodIn wsX4_mod (va_wsS RX4 254 yJ9_floorMod_7cf53 wsJ9_floorMod_7cf53) := goodIn_app (goodIn_of _ (by decide +kernel)) ggX4_mod_J9_floorMod_7cf53
theorem dX4_mod_0 : decode cX4_mod 0 = .ok (.iload_n 1, 1) := by decide +kernel
theorem dX4_mod_1 : decode cX4_mod 1 = .ok (.ifCond .eq 11, 3) := by decide +kernel
theorem dX4_mod_4 : decode cX4_mod 4 = .ok (.iload_n 0, 1) := by decide +kernel
theorem dX4_mod_5 : decode cX4_mod 5 = .ok (.iload_n 1, 1) := by decide +kernel
theorem dX4_mod_6 : decode cX4_mod 6 = .ok (.invokestatic 254, 3) := by decide +kernel
theorem dX4_mod_9 : decode cX4_mod 9 = .ok (.goto 4, 3) := by decide +kernel
theorem dX4_mod_12 : decode cX4_mod 12 = .ok (.iconst 0, 1) := by decide +kernel
theorem dX4_mod_13 : decode cX4_mod 13 = .ok (.ireturn, 1) := by decide +kernel
theorem dX4_gcd_0 : decode cX4_gcd 0 = .ok (.iload_n 0, 1) := by decide +kernel
theorem dX4_gcd_1 : decode cX4_gcd 1 = .ok (.invokestatic 172, 3) := by decide +kernel
theorem dX4_gcd_4 : decode cX4_gcd 4 = .ok (.istore_n 2, 1) := by decide +kernel
theorem dX4_gcd_5 : decode cX4_gcd 5 = .ok (.iload_n 1, 1) := by decide +kernel
theorem dX4_gcd_6 : decode cX4_gcd 6 = .ok (.invokestatic 172, 3) := by decide +kernel
theorem dX4_gcd_9 : decode cX4_gcd 9 = .ok (.istore_n 3, 1) := by decide +kernel
theorem dX4_gcd_10 : decode cX4_gcd 10 = .ok (.iconst 0, 1) := by decide +kernel
theorem dX4_gcd_11 : decode cX4_gcd 11 = .ok (.istore 4, 2) := by decide +kernel
theorem dX4_gcd_13 : decode cX4_gcd 13 = .ok (.iload 4, 2) := by decide +kernel
theorem dX4_gcd_15 : decode cX4_gcd 15 = .ok (.sipush 1000, 3) := by decide +kernel
theorem dX4_gcd_18 : decode cX4_gcd 18 = .ok (.if_icmp .ge 23, 3) := by decide +kernel
theorem dX4_gcd_21 : decode cX4_gcd 21 = .ok (.iload_n 3, 1) := by decide +kernel
theorem dX4_gcd_22 : decode cX4_gcd 22 = .ok (.ifCond .eq 19, 3) := by decide +kernel
theorem dX4_gcd_25 : decode cX4_gcd 25 = .ok (.iload_n 2, 1) := by decide +kernel
theorem dX4_gcd_26 : decode cX4_gcd 26 = .ok (.iload_n 3, 1) := by decide +kernel
theorem dX4_gcd_27 : decode cX4_gcd 27 = .ok (.irem, 1) := by decide +kernel
theorem dX4_gcd_28 : decode cX4_gcd 28 = .ok (.istore 5, 2) := by decide +kernel
theorem dX4_gcd_30 : decode cX4_gcd 30 = .ok (.iload_n 3, 1) := by decide +kernel
theorem dX4_gcd_31 : decode cX4_gcd 31 = .ok (.istore_n 2, 1) := by decide +kernel
theorem dX4_gcd_32 : decode cX4_gcd 32 = .ok (.iload 5, 2) := by decide +kernel
theorem dX4_gcd_34 : decode cX4_gcd 34 = .ok (.istore_n 3, 1) := by decide +kernel
theorem dX4_gcd_35 : decode cX4_gcd 35 = .ok (.iinc 4 1, 3) := by decide +kernel
theorem dX4_gcd_38 : decode cX4_gcd 38 = .ok (.goto (-25), 3) := by decide +kernel
theorem dX4_gcd_41 : decode cX4_gcd 41 = .ok (.iload_n 2, 1) := by decide +kernel
theorem dX4_gcd_42 : decode cX4_gcd 42 = .ok (.ireturn, 1) := by decide +kernel
