-- the words of the methods that the law calls, by their places among the tables (laid by lawplaces.py)
set_option maxRecDepth 20000 in
theorem gi_h_wsX4_init : GoodIn lw_tbl [.code yX4_init cX4_init 2 none] := goodIn_r _ [66] (by decide +kernel) (by decide +kernel)
set_option maxRecDepth 20000 in
theorem gi_wsX30 : GoodIn lw_tbl wsX30 := goodIn_sub inX3 (by decide +kernel)
set_option maxRecDepth 20000 in
theorem gi_wsX4_init_r3 : GoodIn lw_tbl wsX4_init_r3 := goodIn_r _ [184] (by decide +kernel) (by decide +kernel)
set_option maxRecDepth 20000 in
theorem gi_wsX4_init_r2 : GoodIn lw_tbl wsX4_init_r2 := goodIn_r _ [80, 112, 113, 114, 115, 116, 117, 118, 151, 152, 153, 154, 157, 158, 169, 170, 171, 172, 174, 176, 178, 179, 181, 182] (by decide +kernel) (by decide +kernel)
set_option maxRecDepth 20000 in
theorem gi_wsX4_init_r1 : GoodIn lw_tbl wsX4_init_r1 := goodIn_r _ [67, 68, 69, 70, 227, 72, 73, 49, 228, 109, 110, 50, 229, 148, 149, 51, 230, 167, 52, 75, 76, 77, 108, 78] (by decide +kernel) (by decide +kernel)
set_option maxRecDepth 20000 in
theorem gi_wsX40 : GoodIn lw_tbl wsX40 := goodIn_sub inX4 (by decide +kernel)
set_option maxRecDepth 20000 in
theorem gi_wsX10 : GoodIn lw_tbl wsX10 := goodIn_sub inX1 (by decide +kernel)
set_option maxRecDepth 20000 in
theorem gi_wsX00 : GoodIn lw_tbl wsX00 := goodIn_sub inX0 (by decide +kernel)
set_option maxRecDepth 20000 in
theorem gi_wsX20 : GoodIn lw_tbl wsX20 := goodIn_sub inX2 (by decide +kernel)
theorem gi_wsX4_init : GoodIn lw_tbl wsX4_init := goodIn_app (a := [.code yX4_init cX4_init 2 none]) gi_h_wsX4_init (goodIn_app (goodIn_app (goodIn_app (goodIn_app (goodIn_app (goodIn_app gi_wsX4_init_r1 (goodIn_app gi_wsX4_init_r2 gi_wsX4_init_r3)) gi_wsX40) gi_wsX10) gi_wsX00) gi_wsX20) gi_wsX30)
theorem gL_law_X4_init : GoodIn lw_tbl wsX4_init := gi_wsX4_init
set_option maxRecDepth 20000 in
theorem gi_h_wsX5_init : GoodIn lw_tbl [.code yX5_init cX5_init 1 none] := goodIn_r _ [832] (by decide +kernel) (by decide +kernel)
set_option maxRecDepth 20000 in
theorem gi_wsX50 : GoodIn lw_tbl wsX50 := goodIn_sub inX5 (by decide +kernel)
set_option maxRecDepth 20000 in
theorem gi_l13 : GoodIn lw_tbl ([.methodLink RX5 1 objectInit, .instanceMethod objectInit, .code objectInit ⟨#[0xb1]⟩ 1 none, .arrayClass .boolean, .fieldLink RX5 7 "HalftoneScreensModel" "isThere" "[Z", .arrayClass .int, .fieldLink RX5 13 "HalftoneScreensModel" "v" "[I", .fieldLink RX5 17 "HalftoneScreensModel" "spotOf" "[I", .fieldLink RX5 20 "HalftoneScreensModel" "inMiddle" "[Z", .fieldLink RX5 23 "HalftoneScreensModel" "tints" "[I", .fieldLink RX5 26 "HalftoneScreensModel" "buffer" "[I", .fieldLink RX5 29 "HalftoneScreensModel" "values" "[I", .fieldLink RX5 32 "HalftoneScreensModel" "ranks" "[I", .fieldLink RX5 35 "HalftoneScreensModel" "oldRanks" "[I", .fieldLink RX5 38 "HalftoneScreensModel" "part" "[I", .fieldLink RX5 41 "HalftoneScreensModel" "allRanks" "[I", .fieldLink RX5 44 "HalftoneScreensModel" "bases" "[I", .fieldLink RX5 47 "HalftoneScreensModel" "isMet" "[Z", .fieldLink RX5 50 "HalftoneScreensModel" "metX" "[I", .fieldLink RX5 53 "HalftoneScreensModel" "metY" "[I", .fieldLink RX5 56 "HalftoneScreensModel" "line" "[I"] : List Cond) := goodIn_r _ [833, 68, 69, 940, 835, 108, 836, 837, 838, 839, 842, 846, 847, 849, 851, 856, 857, 858, 859, 860, 861] (by decide +kernel) (by decide +kernel)
theorem gi_wsX5_init : GoodIn lw_tbl wsX5_init := goodIn_app (a := [.code yX5_init cX5_init 1 none]) gi_h_wsX5_init (goodIn_app gi_l13 gi_wsX50)
theorem gL_law_X5_init : GoodIn lw_tbl wsX5_init := gi_wsX5_init
set_option maxRecDepth 20000 in
theorem gi_h_wsL_append : GoodIn lw_tbl [.codeWith yL_append cL_append 4 (some .int) [(0, 9, 12, 13), (0, 9, 15, 15)]] := goodIn_r _ [535] (by decide +kernel) (by decide +kernel)
set_option maxRecDepth 20000 in
theorem gi_wsL_law_x1 : GoodIn lw_tbl ((vx_atS RX4 238 "java/lang/IllegalStateException" ["java/lang/RuntimeException", "java/lang/Exception"]).filter goodWord) := goodIn_sub wsL_law_x1 (by decide +kernel)
set_option maxRecDepth 20000 in
theorem gi_wsL_append_r2 : GoodIn lw_tbl wsL_append_r2 := goodIn_r _ [78, 82, 271, 272] (by decide +kernel) (by decide +kernel)
set_option maxRecDepth 20000 in
theorem gi_wsL_append_r1 : GoodIn lw_tbl wsL_append_r1 := goodIn_r _ [536, 537, 538, 539, 540, 48, 541, 228, 83, 294, 295, 296, 297, 57, 452, 453, 454, 455, 58, 542, 543, 544, 49, 545] (by decide +kernel) (by decide +kernel)
set_option maxRecDepth 20000 in
theorem gi_wsL_law_x0 : GoodIn lw_tbl ((vx_atS RX4 231 "java/lang/IllegalArgumentException" ["java/lang/RuntimeException", "java/lang/Exception"]).filter goodWord) := goodIn_sub wsL_law_x0 (by decide +kernel)
theorem gi_wsL_append : GoodIn lw_tbl wsL_append := goodIn_app (a := [.codeWith yL_append cL_append 4 (some .int) [(0, 9, 12, 13), (0, 9, 15, 15)]]) gi_h_wsL_append (goodIn_app (goodIn_app (goodIn_app (goodIn_app (goodIn_app gi_wsL_append_r1 gi_wsL_append_r2) gi_wsX40) gi_wsX10) gi_wsL_law_x0) gi_wsL_law_x1)
set_option maxRecDepth 20000 in
theorem gi_c_gL_law_L_append : GoodIn lw_tbl ([.methodLink RL 105 yL_append, .static yL_append, .initialized yL_append.cls] : List Cond) := goodIn_r _ [533, 534, 47] (by decide +kernel) (by decide +kernel)
theorem gL_law_L_append : GoodIn lw_tbl (va_wsS RL 105 yL_append wsL_append) := goodIn_app gi_c_gL_law_L_append gi_wsL_append
set_option maxRecDepth 20000 in
theorem gi_h_wsX5_append : GoodIn lw_tbl [.code yX5_append cX5_append 2 (some .int)] := goodIn_r _ [948] (by decide +kernel) (by decide +kernel)
set_option maxRecDepth 20000 in
theorem gi_l25 : GoodIn lw_tbl ([.fieldLink RX5 123 "HalftoneScreensModel" "size" "I", .fieldLink RX5 59 "HalftoneScreensModel" "thrown" "I", .fieldLink RX5 26 "HalftoneScreensModel" "buffer" "[I", .methodLink RX5 71 yX5_within, .static yX5_within, .initialized RX5, .code yX5_within cX5_within 3 (some .boolean)] : List Cond) := goodIn_r _ [841, 834, 842, 949, 950, 53, 951] (by decide +kernel) (by decide +kernel)
theorem gi_wsX5_append : GoodIn lw_tbl wsX5_append := goodIn_app (a := [.code yX5_append cX5_append 2 (some .int)]) gi_h_wsX5_append (goodIn_app gi_l25 gi_wsX50)
set_option maxRecDepth 20000 in
theorem gi_c_gL_law_X5_append : GoodIn lw_tbl ([.methodLink RL 110 yX5_append, .instanceMethod yX5_append, .selects RX5 yX5_append yX5_append, .initialized RX5] : List Cond) := goodIn_r _ [945, 946, 947, 53] (by decide +kernel) (by decide +kernel)
theorem gL_law_X5_append : GoodIn lw_tbl (wsV RL 110 RX5 yX5_append wsX5_append) := goodIn_app gi_c_gL_law_X5_append gi_wsX5_append
set_option maxRecDepth 20000 in
theorem gi_h_wsX5_thrown : GoodIn lw_tbl [.code yX5_thrown cX5_thrown 1 (some .int)] := goodIn_r _ [944] (by decide +kernel) (by decide +kernel)
set_option maxRecDepth 20000 in
theorem gi_l30 : GoodIn lw_tbl ([.fieldLink RX5 59 "HalftoneScreensModel" "thrown" "I"] : List Cond) := goodIn_r _ [834] (by decide +kernel) (by decide +kernel)
theorem gi_wsX5_thrown : GoodIn lw_tbl wsX5_thrown := goodIn_app (a := [.code yX5_thrown cX5_thrown 1 (some .int)]) gi_h_wsX5_thrown (goodIn_app gi_l30 gi_wsX50)
set_option maxRecDepth 20000 in
theorem gi_c_gL_law_X5_thrown : GoodIn lw_tbl ([.methodLink RL 111 yX5_thrown, .instanceMethod yX5_thrown, .selects RX5 yX5_thrown yX5_thrown, .initialized RX5] : List Cond) := goodIn_r _ [941, 942, 943, 53] (by decide +kernel) (by decide +kernel)
theorem gL_law_X5_thrown : GoodIn lw_tbl (wsV RL 111 RX5 yX5_thrown wsX5_thrown) := goodIn_app gi_c_gL_law_X5_thrown gi_wsX5_thrown
set_option maxRecDepth 20000 in
theorem gi_h_wsX4_clearInput : GoodIn lw_tbl [.code yX4_clearInput cX4_clearInput 2 (some .int)] := goodIn_r _ [246] (by decide +kernel) (by decide +kernel)
set_option maxRecDepth 20000 in
theorem gi_l35 : GoodIn lw_tbl ([.fieldLink RX4 18 "HalftoneScreens" "input" "LHalftoneScreens$Input;", .fieldLink RX4 41 "HalftoneScreens$Input" "length" "I"] : List Cond) := goodIn_r _ [228, 83] (by decide +kernel) (by decide +kernel)
theorem gi_wsX4_clearInput : GoodIn lw_tbl wsX4_clearInput := goodIn_app (a := [.code yX4_clearInput cX4_clearInput 2 (some .int)]) gi_h_wsX4_clearInput (goodIn_app (goodIn_app gi_l35 gi_wsX40) gi_wsX10)
set_option maxRecDepth 20000 in
theorem gi_c_gL_law_X4_clearInput : GoodIn lw_tbl ([.methodLink RL 115 yX4_clearInput, .instanceMethod yX4_clearInput, .selects RX4 yX4_clearInput yX4_clearInput, .initialized RX4] : List Cond) := goodIn_r _ [243, 244, 245, 48] (by decide +kernel) (by decide +kernel)
theorem gL_law_X4_clearInput : GoodIn lw_tbl (wsV RL 115 RX4 yX4_clearInput wsX4_clearInput) := goodIn_app gi_c_gL_law_X4_clearInput gi_wsX4_clearInput
set_option maxRecDepth 20000 in
theorem gi_h_wsX5_clearInput : GoodIn lw_tbl [.code yX5_clearInput cX5_clearInput 2 (some .int)] := goodIn_r _ [955] (by decide +kernel) (by decide +kernel)
set_option maxRecDepth 20000 in
theorem gi_l40 : GoodIn lw_tbl ([.fieldLink RX5 59 "HalftoneScreensModel" "thrown" "I", .fieldLink RX5 123 "HalftoneScreensModel" "size" "I"] : List Cond) := goodIn_r _ [834, 841] (by decide +kernel) (by decide +kernel)
theorem gi_wsX5_clearInput : GoodIn lw_tbl wsX5_clearInput := goodIn_app (a := [.code yX5_clearInput cX5_clearInput 2 (some .int)]) gi_h_wsX5_clearInput (goodIn_app gi_l40 gi_wsX50)
set_option maxRecDepth 20000 in
theorem gi_c_gL_law_X5_clearInput : GoodIn lw_tbl ([.methodLink RL 118 yX5_clearInput, .instanceMethod yX5_clearInput, .selects RX5 yX5_clearInput yX5_clearInput, .initialized RX5] : List Cond) := goodIn_r _ [952, 953, 954, 53] (by decide +kernel) (by decide +kernel)
theorem gL_law_X5_clearInput : GoodIn lw_tbl (wsV RL 118 RX5 yX5_clearInput wsX5_clearInput) := goodIn_app gi_c_gL_law_X5_clearInput gi_wsX5_clearInput
set_option maxRecDepth 20000 in
theorem gi_h_wsX4_firstError : GoodIn lw_tbl [.code yX4_firstError cX4_firstError 1 (some .int)] := goodIn_r _ [250] (by decide +kernel) (by decide +kernel)
set_option maxRecDepth 20000 in
theorem gi_wsX4_firstError_r2 : GoodIn lw_tbl wsX4_firstError_r2 := goodIn_r _ [266, 267, 268, 269, 80, 271, 272, 273, 274, 275, 276, 277, 278, 279, 280, 281, 282, 283, 284] (by decide +kernel) (by decide +kernel)
set_option maxRecDepth 20000 in
theorem gi_wsX4_firstError_r1 : GoodIn lw_tbl wsX4_firstError_r1 := goodIn_r _ [228, 251, 252, 253, 49, 254, 84, 85, 86, 87, 89, 82, 78, 256, 48, 257, 258, 259, 260, 261, 262, 263, 264, 265] (by decide +kernel) (by decide +kernel)
theorem gi_wsX4_firstError : GoodIn lw_tbl wsX4_firstError := goodIn_app (a := [.code yX4_firstError cX4_firstError 1 (some .int)]) gi_h_wsX4_firstError (goodIn_app (goodIn_app (goodIn_app gi_wsX4_firstError_r1 gi_wsX4_firstError_r2) gi_wsX40) gi_wsX10)
set_option maxRecDepth 20000 in
theorem gi_c_gL_law_X4_firstError : GoodIn lw_tbl ([.methodLink RL 119 yX4_firstError, .instanceMethod yX4_firstError, .selects RX4 yX4_firstError yX4_firstError, .initialized RX4] : List Cond) := goodIn_r _ [247, 248, 249, 48] (by decide +kernel) (by decide +kernel)
theorem gL_law_X4_firstError : GoodIn lw_tbl (wsV RL 119 RX4 yX4_firstError wsX4_firstError) := goodIn_app gi_c_gL_law_X4_firstError gi_wsX4_firstError
set_option maxRecDepth 20000 in
theorem gi_h_wsX5_firstError : GoodIn lw_tbl [.code yX5_firstError cX5_firstError 1 (some .int)] := goodIn_r _ [959] (by decide +kernel) (by decide +kernel)
set_option maxRecDepth 20000 in
theorem gi_wsX5_firstError_r2 : GoodIn lw_tbl wsX5_firstError_r2 := goodIn_r _ [971, 972, 973, 974] (by decide +kernel) (by decide +kernel)
set_option maxRecDepth 20000 in
theorem gi_wsX5_firstError_r1 : GoodIn lw_tbl wsX5_firstError_r1 := goodIn_r _ [834, 960, 962, 8, 53, 963, 850, 852, 853, 854, 855, 841, 842, 964, 966, 9, 967, 851, 949, 950, 951, 968, 970, 10] (by decide +kernel) (by decide +kernel)
theorem gi_wsX5_firstError : GoodIn lw_tbl wsX5_firstError := goodIn_app (a := [.code yX5_firstError cX5_firstError 1 (some .int)]) gi_h_wsX5_firstError (goodIn_app (goodIn_app gi_wsX5_firstError_r1 gi_wsX5_firstError_r2) gi_wsX50)
set_option maxRecDepth 20000 in
theorem gi_c_gL_law_X5_firstError : GoodIn lw_tbl ([.methodLink RL 122 yX5_firstError, .instanceMethod yX5_firstError, .selects RX5 yX5_firstError yX5_firstError, .initialized RX5] : List Cond) := goodIn_r _ [956, 957, 958, 53] (by decide +kernel) (by decide +kernel)
theorem gL_law_X5_firstError : GoodIn lw_tbl (wsV RL 122 RX5 yX5_firstError wsX5_firstError) := goodIn_app gi_c_gL_law_X5_firstError gi_wsX5_firstError
set_option maxRecDepth 20000 in
theorem gi_h_wsL_load : GoodIn lw_tbl [.codeWith yL_load cL_load 4 (some .int) [(0, 9, 12, 20), (0, 9, 15, 15), (0, 9, 18, 13)]] := goodIn_r _ [548] (by decide +kernel) (by decide +kernel)
set_option maxRecDepth 20000 in
theorem gi_wsL_load_r8 : GoodIn lw_tbl wsL_load_r8 := goodIn_r _ [607, 608, 610, 609, 611, 612, 613, 614, 424, 425, 615, 616, 617, 618, 182, 619, 620, 621, 622, 365] (by decide +kernel) (by decide +kernel)
set_option maxRecDepth 20000 in
theorem gi_wsL_load_r7 : GoodIn lw_tbl wsL_load_r7 := goodIn_r _ [583, 584, 585, 586, 589, 590, 591, 592, 595, 596, 597, 598, 176, 178, 599, 600, 601, 602, 437, 438, 439, 604, 605, 606] (by decide +kernel) (by decide +kernel)
set_option maxRecDepth 20000 in
theorem gi_wsL_load_r6 : GoodIn lw_tbl wsL_load_r6 := goodIn_r _ [481, 483, 484, 490, 491, 492, 493, 60, 494, 577, 578, 579, 580, 155, 184, 430, 366, 367, 368, 369, 370, 371, 372, 582] (by decide +kernel) (by decide +kernel)
set_option maxRecDepth 20000 in
theorem gi_wsL_load_r5 : GoodIn lw_tbl wsL_load_r5 := goodIn_r _ [192, 194, 185, 569, 570, 571, 572, 179, 181, 573, 575, 574, 61, 174, 576, 476, 477, 51, 478, 154, 488, 158, 157, 480] (by decide +kernel) (by decide +kernel)
set_option maxRecDepth 20000 in
theorem gi_wsL_load_r4 : GoodIn lw_tbl wsL_load_r4 := goodIn_r _ [560, 561, 485, 486, 60, 487, 562, 563, 564, 294, 295, 296, 297, 57, 565, 566, 567, 52, 568, 187, 188, 189, 190, 191] (by decide +kernel) (by decide +kernel)
set_option maxRecDepth 20000 in
theorem gi_wsL_load_r3 : GoodIn lw_tbl wsL_load_r3 := goodIn_r _ [268, 269, 80, 271, 272, 273, 274, 275, 276, 277, 278, 279, 280, 281, 282, 283, 284, 452, 453, 454, 455, 58, 390, 559] (by decide +kernel) (by decide +kernel)
set_option maxRecDepth 20000 in
theorem gi_wsL_load_r2 : GoodIn lw_tbl wsL_load_r2 := goodIn_r _ [557, 82, 84, 558, 252, 253, 254, 85, 86, 87, 89, 78, 256, 257, 258, 259, 260, 261, 262, 263, 264, 265, 266, 267] (by decide +kernel) (by decide +kernel)
set_option maxRecDepth 20000 in
theorem gi_wsL_load_r1 : GoodIn lw_tbl wsL_load_r1 := goodIn_r _ [549, 537, 536, 550, 551, 552, 48, 553, 228, 81, 88, 90, 83, 504, 506, 5, 507, 508, 59, 227, 554, 555, 556, 49] (by decide +kernel) (by decide +kernel)
set_option maxRecDepth 20000 in
theorem gi_wsL_law_x2 : GoodIn lw_tbl ((vx_atS RX4 243 "java/lang/IndexOutOfBoundsException" ["java/lang/RuntimeException", "java/lang/Exception"]).filter goodWord) := goodIn_sub wsL_law_x2 (by decide +kernel)
theorem gi_wsL_load : GoodIn lw_tbl wsL_load := goodIn_app (a := [.codeWith yL_load cL_load 4 (some .int) [(0, 9, 12, 20), (0, 9, 15, 15), (0, 9, 18, 13)]]) gi_h_wsL_load (goodIn_app (goodIn_app (goodIn_app (goodIn_app (goodIn_app (goodIn_app (goodIn_app (goodIn_app gi_wsL_load_r1 (goodIn_app gi_wsL_load_r2 (goodIn_app gi_wsL_load_r3 (goodIn_app gi_wsL_load_r4 (goodIn_app gi_wsL_load_r5 (goodIn_app gi_wsL_load_r6 (goodIn_app gi_wsL_load_r7 gi_wsL_load_r8))))))) gi_wsX40) gi_wsX10) gi_wsX30) gi_wsX20) gi_wsL_law_x2) gi_wsL_law_x1) gi_wsL_law_x0)
set_option maxRecDepth 20000 in
theorem gi_c_gL_law_L_load : GoodIn lw_tbl ([.methodLink RL 123 yL_load, .static yL_load, .initialized yL_load.cls] : List Cond) := goodIn_r _ [546, 547, 47] (by decide +kernel) (by decide +kernel)
theorem gL_law_L_load : GoodIn lw_tbl (va_wsS RL 123 yL_load wsL_load) := goodIn_app gi_c_gL_law_L_load gi_wsL_load
set_option maxRecDepth 20000 in
theorem gi_h_wsX5_load : GoodIn lw_tbl [.code yX5_load cX5_load 4 (some .int)] := goodIn_r _ [978] (by decide +kernel) (by decide +kernel)
set_option maxRecDepth 20000 in
theorem gi_wsX5_load_r3 : GoodIn lw_tbl wsX5_load_r3 := goodIn_r _ [12, 995] (by decide +kernel) (by decide +kernel)
set_option maxRecDepth 20000 in
theorem gi_wsX5_load_r2 : GoodIn lw_tbl wsX5_load_r2 := goodIn_r _ [10, 971, 972, 973, 974, 979, 980, 981, 982, 983, 984, 985, 986, 987, 988, 990, 11, 991, 836, 837, 839, 835, 992, 994] (by decide +kernel) (by decide +kernel)
set_option maxRecDepth 20000 in
theorem gi_wsX5_load_r1 : GoodIn lw_tbl wsX5_load_r1 := goodIn_r _ [841, 853, 851, 834, 838, 854, 960, 962, 8, 53, 963, 850, 852, 855, 842, 964, 966, 9, 967, 949, 950, 951, 968, 970] (by decide +kernel) (by decide +kernel)
theorem gi_wsX5_load : GoodIn lw_tbl wsX5_load := goodIn_app (a := [.code yX5_load cX5_load 4 (some .int)]) gi_h_wsX5_load (goodIn_app (goodIn_app gi_wsX5_load_r1 (goodIn_app gi_wsX5_load_r2 gi_wsX5_load_r3)) gi_wsX50)
set_option maxRecDepth 20000 in
theorem gi_c_gL_law_X5_load : GoodIn lw_tbl ([.methodLink RL 125 yX5_load, .instanceMethod yX5_load, .selects RX5 yX5_load yX5_load, .initialized RX5] : List Cond) := goodIn_r _ [975, 976, 977, 53] (by decide +kernel) (by decide +kernel)
theorem gL_law_X5_load : GoodIn lw_tbl (wsV RL 125 RX5 yX5_load wsX5_load) := goodIn_app gi_c_gL_law_X5_load gi_wsX5_load
set_option maxRecDepth 20000 in
theorem gi_h_wsL_setScreen : GoodIn lw_tbl [.codeWith yL_setScreen cL_setScreen 9 (some .int) [(0, 18, 21, 20), (0, 18, 25, 13)]] := goodIn_r _ [625] (by decide +kernel) (by decide +kernel)
set_option maxRecDepth 20000 in
theorem gi_wsL_setScreen_r6 : GoodIn lw_tbl wsL_setScreen_r6 := goodIn_r _ [610, 609, 611, 612, 613, 614, 424, 425, 615, 616, 617, 618, 182, 619, 620, 621, 622, 365] (by decide +kernel) (by decide +kernel)
set_option maxRecDepth 20000 in
theorem gi_wsL_setScreen_r5 : GoodIn lw_tbl wsL_setScreen_r5 := goodIn_r _ [589, 590, 591, 592, 271, 272, 595, 596, 597, 598, 176, 178, 599, 600, 601, 602, 437, 438, 439, 604, 605, 606, 607, 608] (by decide +kernel) (by decide +kernel)
set_option maxRecDepth 20000 in
theorem gi_wsL_setScreen_r4 : GoodIn lw_tbl wsL_setScreen_r4 := goodIn_r _ [493, 60, 494, 577, 578, 579, 580, 155, 184, 430, 366, 367, 368, 369, 370, 371, 372, 582, 583, 584, 585, 586, 256, 257] (by decide +kernel) (by decide +kernel)
set_option maxRecDepth 20000 in
theorem gi_wsL_setScreen_r3 : GoodIn lw_tbl wsL_setScreen_r3 := goodIn_r _ [572, 179, 181, 573, 575, 574, 61, 174, 576, 476, 477, 51, 478, 154, 488, 158, 157, 480, 481, 483, 484, 490, 491, 492] (by decide +kernel) (by decide +kernel)
set_option maxRecDepth 20000 in
theorem gi_wsL_setScreen_r2 : GoodIn lw_tbl wsL_setScreen_r2 := goodIn_r _ [561, 485, 486, 60, 487, 562, 563, 564, 565, 566, 567, 52, 568, 187, 188, 189, 190, 191, 192, 194, 185, 569, 570, 571] (by decide +kernel) (by decide +kernel)
set_option maxRecDepth 20000 in
theorem gi_wsL_setScreen_r1 : GoodIn lw_tbl wsL_setScreen_r1 := goodIn_r _ [549, 536, 626, 627, 628, 48, 629, 504, 506, 5, 507, 508, 59, 227, 630, 631, 632, 294, 295, 296, 297, 57, 559, 560] (by decide +kernel) (by decide +kernel)
theorem gi_wsL_setScreen : GoodIn lw_tbl wsL_setScreen := goodIn_app (a := [.codeWith yL_setScreen cL_setScreen 9 (some .int) [(0, 18, 21, 20), (0, 18, 25, 13)]]) gi_h_wsL_setScreen (goodIn_app (goodIn_app (goodIn_app (goodIn_app (goodIn_app (goodIn_app gi_wsL_setScreen_r1 (goodIn_app gi_wsL_setScreen_r2 (goodIn_app gi_wsL_setScreen_r3 (goodIn_app gi_wsL_setScreen_r4 (goodIn_app gi_wsL_setScreen_r5 gi_wsL_setScreen_r6))))) gi_wsX40) gi_wsX30) gi_wsX20) gi_wsL_law_x2) gi_wsL_law_x0)
set_option maxRecDepth 20000 in
theorem gi_c_gL_law_L_setScreen : GoodIn lw_tbl ([.methodLink RL 126 yL_setScreen, .static yL_setScreen, .initialized yL_setScreen.cls] : List Cond) := goodIn_r _ [623, 624, 47] (by decide +kernel) (by decide +kernel)
theorem gL_law_L_setScreen : GoodIn lw_tbl (va_wsS RL 126 yL_setScreen wsL_setScreen) := goodIn_app gi_c_gL_law_L_setScreen gi_wsL_setScreen
set_option maxRecDepth 20000 in
theorem gi_h_wsX5_setScreen : GoodIn lw_tbl [.code yX5_setScreen cX5_setScreen 9 (some .int)] := goodIn_r _ [999] (by decide +kernel) (by decide +kernel)
set_option maxRecDepth 20000 in
theorem gi_wsX5_setScreen_r2 : GoodIn lw_tbl wsX5_setScreen_r2 := goodIn_r _ [839, 835, 992, 994, 12, 995] (by decide +kernel) (by decide +kernel)
set_option maxRecDepth 20000 in
theorem gi_wsX5_setScreen_r1 : GoodIn lw_tbl wsX5_setScreen_r1 := goodIn_r _ [834, 1000, 1001, 53, 1002, 949, 950, 951, 979, 980, 981, 982, 983, 984, 985, 986, 987, 988, 990, 11, 991, 836, 837, 838] (by decide +kernel) (by decide +kernel)
theorem gi_wsX5_setScreen : GoodIn lw_tbl wsX5_setScreen := goodIn_app (a := [.code yX5_setScreen cX5_setScreen 9 (some .int)]) gi_h_wsX5_setScreen (goodIn_app (goodIn_app gi_wsX5_setScreen_r1 gi_wsX5_setScreen_r2) gi_wsX50)
set_option maxRecDepth 20000 in
theorem gi_c_gL_law_X5_setScreen : GoodIn lw_tbl ([.methodLink RL 129 yX5_setScreen, .instanceMethod yX5_setScreen, .selects RX5 yX5_setScreen yX5_setScreen, .initialized RX5] : List Cond) := goodIn_r _ [996, 997, 998, 53] (by decide +kernel) (by decide +kernel)
theorem gL_law_X5_setScreen : GoodIn lw_tbl (wsV RL 129 RX5 yX5_setScreen wsX5_setScreen) := goodIn_app gi_c_gL_law_X5_setScreen gi_wsX5_setScreen
set_option maxRecDepth 20000 in
theorem gi_h_wsL_remove : GoodIn lw_tbl [.codeWith yL_remove cL_remove 4 (some .int) [(0, 9, 12, 20), (0, 9, 15, 15)]] := goodIn_r _ [635] (by decide +kernel) (by decide +kernel)
set_option maxRecDepth 20000 in
theorem gi_wsL_remove_r2 : GoodIn lw_tbl wsL_remove_r2 := goodIn_r _ [231, 228, 83, 195, 294, 295, 296, 297, 57, 365, 366, 367, 52, 368, 174, 369, 370, 371, 51, 372, 154, 158] (by decide +kernel) (by decide +kernel)
set_option maxRecDepth 20000 in
theorem gi_wsL_remove_r1 : GoodIn lw_tbl wsL_remove_r1 := goodIn_r _ [549, 537, 636, 637, 638, 48, 639, 186, 504, 506, 5, 507, 508, 59, 227, 452, 453, 454, 455, 58, 290, 291, 292, 293] (by decide +kernel) (by decide +kernel)
theorem gi_wsL_remove : GoodIn lw_tbl wsL_remove := goodIn_app (a := [.codeWith yL_remove cL_remove 4 (some .int) [(0, 9, 12, 20), (0, 9, 15, 15)]]) gi_h_wsL_remove (goodIn_app (goodIn_app (goodIn_app (goodIn_app (goodIn_app (goodIn_app (goodIn_app (goodIn_app gi_wsL_remove_r1 gi_wsL_remove_r2) gi_wsX30) gi_wsX40) gi_wsX10) gi_wsX20) gi_wsL_law_x2) gi_wsL_law_x1) gi_wsL_law_x0)
set_option maxRecDepth 20000 in
theorem gi_c_gL_law_L_remove : GoodIn lw_tbl ([.methodLink RL 130 yL_remove, .static yL_remove, .initialized yL_remove.cls] : List Cond) := goodIn_r _ [633, 634, 47] (by decide +kernel) (by decide +kernel)
theorem gL_law_L_remove : GoodIn lw_tbl (va_wsS RL 130 yL_remove wsL_remove) := goodIn_app gi_c_gL_law_L_remove gi_wsL_remove
set_option maxRecDepth 20000 in
theorem gi_h_wsX5_remove : GoodIn lw_tbl [.code yX5_remove cX5_remove 2 (some .int)] := goodIn_r _ [1006] (by decide +kernel) (by decide +kernel)
set_option maxRecDepth 20000 in
theorem gi_l99 : GoodIn lw_tbl ([.fieldLink RX5 59 "HalftoneScreensModel" "thrown" "I", .fieldLink RX5 7 "HalftoneScreensModel" "isThere" "[Z", .methodLink RX5 162 yX5_missing, .instanceMethod yX5_missing, .selects RX5 yX5_missing yX5_missing, .initialized RX5, .code yX5_missing cX5_missing 2 (some .int), .methodLink RX5 75 yX5_isSlot, .static yX5_isSlot, .code yX5_isSlot cX5_isSlot 1 (some .boolean), .methodLink RX5 71 yX5_within, .static yX5_within, .code yX5_within cX5_within 3 (some .boolean), .methodLink RX5 165 yX5_screens, .instanceMethod yX5_screens, .selects RX5 yX5_screens yX5_screens, .code yX5_screens cX5_screens 3 (some .int)] : List Cond) := goodIn_r _ [834, 835, 1007, 1009, 13, 53, 1010, 985, 986, 987, 949, 950, 951, 1011, 1013, 14, 1014] (by decide +kernel) (by decide +kernel)
theorem gi_wsX5_remove : GoodIn lw_tbl wsX5_remove := goodIn_app (a := [.code yX5_remove cX5_remove 2 (some .int)]) gi_h_wsX5_remove (goodIn_app gi_l99 gi_wsX50)
set_option maxRecDepth 20000 in
theorem gi_c_gL_law_X5_remove : GoodIn lw_tbl ([.methodLink RL 132 yX5_remove, .instanceMethod yX5_remove, .selects RX5 yX5_remove yX5_remove, .initialized RX5] : List Cond) := goodIn_r _ [1003, 1004, 1005, 53] (by decide +kernel) (by decide +kernel)
theorem gL_law_X5_remove : GoodIn lw_tbl (wsV RL 132 RX5 yX5_remove wsX5_remove) := goodIn_app gi_c_gL_law_X5_remove gi_wsX5_remove
set_option maxRecDepth 20000 in
theorem gi_h_wsL_setCenter : GoodIn lw_tbl [.codeWith yL_setCenter cL_setCenter 5 (some .int) [(0, 10, 13, 20), (0, 10, 17, 15)]] := goodIn_r _ [642] (by decide +kernel) (by decide +kernel)
set_option maxRecDepth 20000 in
theorem gi_wsL_setCenter_r6 : GoodIn lw_tbl wsL_setCenter_r6 := goodIn_r _ [619, 620, 621, 622] (by decide +kernel) (by decide +kernel)
set_option maxRecDepth 20000 in
theorem gi_wsL_setCenter_r5 : GoodIn lw_tbl wsL_setCenter_r5 := goodIn_r _ [600, 601, 602, 437, 438, 439, 604, 605, 606, 607, 608, 610, 609, 611, 612, 613, 614, 424, 425, 615, 616, 617, 618, 182] (by decide +kernel) (by decide +kernel)
set_option maxRecDepth 20000 in
theorem gi_wsL_setCenter_r4 : GoodIn lw_tbl wsL_setCenter_r4 := goodIn_r _ [371, 372, 582, 583, 584, 585, 586, 256, 257, 589, 590, 591, 592, 271, 272, 595, 596, 597, 598, 191, 176, 192, 178, 599] (by decide +kernel) (by decide +kernel)
set_option maxRecDepth 20000 in
theorem gi_wsL_setCenter_r3 : GoodIn lw_tbl wsL_setCenter_r3 := goodIn_r _ [157, 480, 481, 483, 484, 485, 490, 491, 492, 493, 60, 494, 577, 578, 579, 580, 155, 184, 430, 366, 367, 368, 369, 370] (by decide +kernel) (by decide +kernel)
set_option maxRecDepth 20000 in
theorem gi_wsL_setCenter_r2 : GoodIn lw_tbl wsL_setCenter_r2 := goodIn_r _ [52, 572, 179, 181, 573, 575, 574, 61, 174, 187, 188, 189, 190, 576, 476, 477, 51, 478, 154, 488, 486, 60, 487, 158] (by decide +kernel) (by decide +kernel)
