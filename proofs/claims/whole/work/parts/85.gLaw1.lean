-- the words of the methods that the law calls, by their places among the tables (laid by lawplaces.py)
set_option maxRecDepth 20000 in
theorem gi_wsL_setCenter_r1 : GoodIn lw_tbl wsL_setCenter_r1 := goodIn_r _ [549, 537, 643, 644, 645, 48, 646, 186, 193, 504, 506, 5, 507, 508, 59, 227, 452, 453, 454, 455, 58, 569, 570, 571] (by decide +kernel) (by decide +kernel)
theorem gi_wsL_setCenter : GoodIn lw_tbl wsL_setCenter := goodIn_app (a := [.codeWith yL_setCenter cL_setCenter 5 (some .int) [(0, 10, 13, 20), (0, 10, 17, 15)]]) gi_h_wsL_setCenter (goodIn_app (goodIn_app (goodIn_app (goodIn_app (goodIn_app (goodIn_app gi_wsL_setCenter_r1 (goodIn_app gi_wsL_setCenter_r2 (goodIn_app gi_wsL_setCenter_r3 (goodIn_app gi_wsL_setCenter_r4 (goodIn_app gi_wsL_setCenter_r5 gi_wsL_setCenter_r6))))) gi_wsX30) gi_wsX40) gi_wsX20) gi_wsL_law_x2) gi_wsL_law_x1)
set_option maxRecDepth 20000 in
theorem gi_c_gL_law_L_setCenter : GoodIn lw_tbl ([.methodLink RL 133 yL_setCenter, .static yL_setCenter, .initialized yL_setCenter.cls] : List Cond) := goodIn_r _ [640, 641, 47] (by decide +kernel) (by decide +kernel)
theorem gL_law_L_setCenter : GoodIn lw_tbl (va_wsS RL 133 yL_setCenter wsL_setCenter) := goodIn_app gi_c_gL_law_L_setCenter gi_wsL_setCenter
set_option maxRecDepth 20000 in
theorem gi_h_wsX5_setCenter : GoodIn lw_tbl [.code yX5_setCenter cX5_setCenter 3 (some .int)] := goodIn_r _ [1018] (by decide +kernel) (by decide +kernel)
set_option maxRecDepth 20000 in
theorem gi_wsX5_setCenter_r3 : GoodIn lw_tbl wsX5_setCenter_r3 := goodIn_r _ [1039, 1040, 992, 994, 12, 995, 1041, 1043, 19, 1044, 837, 1045, 1047, 20, 1048, 1049, 1050, 1051, 1052, 1054, 21, 1055] (by decide +kernel) (by decide +kernel)
set_option maxRecDepth 20000 in
theorem gi_wsX5_setCenter_r2 : GoodIn lw_tbl wsX5_setCenter_r2 := goodIn_r _ [1026, 846, 843, 1027, 1029, 17, 1030, 836, 1031, 1033, 18, 1034, 845, 844, 1035, 1036, 1037, 982, 983, 984, 979, 980, 981, 1038] (by decide +kernel) (by decide +kernel)
set_option maxRecDepth 20000 in
theorem gi_wsX5_setCenter_r1 : GoodIn lw_tbl wsX5_setCenter_r1 := goodIn_r _ [834, 838, 1007, 1009, 13, 53, 1010, 835, 985, 986, 987, 949, 950, 951, 1019, 1021, 15, 1022, 848, 849, 847, 1023, 1025, 16] (by decide +kernel) (by decide +kernel)
theorem gi_wsX5_setCenter : GoodIn lw_tbl wsX5_setCenter := goodIn_app (a := [.code yX5_setCenter cX5_setCenter 3 (some .int)]) gi_h_wsX5_setCenter (goodIn_app (goodIn_app gi_wsX5_setCenter_r1 (goodIn_app gi_wsX5_setCenter_r2 gi_wsX5_setCenter_r3)) gi_wsX50)
set_option maxRecDepth 20000 in
theorem gi_c_gL_law_X5_setCenter : GoodIn lw_tbl ([.methodLink RL 136 yX5_setCenter, .instanceMethod yX5_setCenter, .selects RX5 yX5_setCenter yX5_setCenter, .initialized RX5] : List Cond) := goodIn_r _ [1015, 1016, 1017, 53] (by decide +kernel) (by decide +kernel)
theorem gL_law_X5_setCenter : GoodIn lw_tbl (wsV RL 136 RX5 yX5_setCenter wsX5_setCenter) := goodIn_app gi_c_gL_law_X5_setCenter gi_wsX5_setCenter
set_option maxRecDepth 20000 in
theorem gi_h_wsL_turn : GoodIn lw_tbl [.codeWith yL_turn cL_turn 5 (some .int) [(0, 10, 13, 20), (0, 10, 17, 13), (0, 10, 21, 15)]] := goodIn_r _ [649] (by decide +kernel) (by decide +kernel)
set_option maxRecDepth 20000 in
theorem gi_wsL_turn_r6 : GoodIn lw_tbl wsL_turn_r6 := goodIn_r _ [613, 614, 424, 425, 615, 616, 617, 618, 182, 619, 620, 621, 622] (by decide +kernel) (by decide +kernel)
set_option maxRecDepth 20000 in
theorem gi_wsL_turn_r5 : GoodIn lw_tbl wsL_turn_r5 := goodIn_r _ [595, 596, 597, 598, 191, 176, 192, 178, 599, 600, 601, 602, 437, 438, 439, 604, 605, 606, 607, 608, 610, 609, 611, 612] (by decide +kernel) (by decide +kernel)
set_option maxRecDepth 20000 in
theorem gi_wsL_turn_r4 : GoodIn lw_tbl wsL_turn_r4 := goodIn_r _ [580, 155, 184, 430, 366, 367, 368, 369, 370, 371, 372, 582, 583, 584, 585, 586, 256, 257, 589, 590, 591, 592, 271, 272] (by decide +kernel) (by decide +kernel)
set_option maxRecDepth 20000 in
theorem gi_wsL_turn_r3 : GoodIn lw_tbl wsL_turn_r3 := goodIn_r _ [477, 51, 478, 154, 488, 486, 60, 487, 158, 157, 480, 481, 483, 484, 485, 490, 491, 492, 493, 60, 494, 577, 578, 579] (by decide +kernel) (by decide +kernel)
set_option maxRecDepth 20000 in
theorem gi_wsL_turn_r2 : GoodIn lw_tbl wsL_turn_r2 := goodIn_r _ [455, 58, 654, 655, 656, 52, 657, 187, 189, 188, 190, 569, 570, 571, 572, 179, 181, 573, 575, 574, 61, 174, 576, 476] (by decide +kernel) (by decide +kernel)
set_option maxRecDepth 20000 in
theorem gi_wsL_turn_r1 : GoodIn lw_tbl wsL_turn_r1 := goodIn_r _ [549, 536, 537, 650, 651, 652, 48, 653, 186, 504, 506, 5, 507, 508, 59, 227, 294, 295, 296, 297, 57, 452, 453, 454] (by decide +kernel) (by decide +kernel)
theorem gi_wsL_turn : GoodIn lw_tbl wsL_turn := goodIn_app (a := [.codeWith yL_turn cL_turn 5 (some .int) [(0, 10, 13, 20), (0, 10, 17, 13), (0, 10, 21, 15)]]) gi_h_wsL_turn (goodIn_app (goodIn_app (goodIn_app (goodIn_app (goodIn_app (goodIn_app (goodIn_app gi_wsL_turn_r1 (goodIn_app gi_wsL_turn_r2 (goodIn_app gi_wsL_turn_r3 (goodIn_app gi_wsL_turn_r4 (goodIn_app gi_wsL_turn_r5 gi_wsL_turn_r6))))) gi_wsX30) gi_wsX40) gi_wsX20) gi_wsL_law_x2) gi_wsL_law_x0) gi_wsL_law_x1)
set_option maxRecDepth 20000 in
theorem gi_c_gL_law_L_turn : GoodIn lw_tbl ([.methodLink RL 137 yL_turn, .static yL_turn, .initialized yL_turn.cls] : List Cond) := goodIn_r _ [647, 648, 47] (by decide +kernel) (by decide +kernel)
theorem gL_law_L_turn : GoodIn lw_tbl (va_wsS RL 137 yL_turn wsL_turn) := goodIn_app gi_c_gL_law_L_turn gi_wsL_turn
set_option maxRecDepth 20000 in
theorem gi_h_wsX5_turn : GoodIn lw_tbl [.code yX5_turn cX5_turn 3 (some .int)] := goodIn_r _ [1059] (by decide +kernel) (by decide +kernel)
set_option maxRecDepth 20000 in
theorem gi_wsX5_turn_r4 : GoodIn lw_tbl wsX5_turn_r4 := goodIn_r _ [21, 1055] (by decide +kernel) (by decide +kernel)
set_option maxRecDepth 20000 in
theorem gi_wsX5_turn_r3 : GoodIn lw_tbl wsX5_turn_r3 := goodIn_r _ [1040, 992, 994, 12, 995, 1041, 1043, 19, 1044, 838, 837, 1045, 1047, 20, 1048, 1049, 1050, 1051, 1064, 1066, 23, 1067, 1052, 1054] (by decide +kernel) (by decide +kernel)
set_option maxRecDepth 20000 in
theorem gi_wsX5_turn_r2 : GoodIn lw_tbl wsX5_turn_r2 := goodIn_r _ [846, 843, 1027, 1029, 17, 1030, 836, 1031, 1033, 18, 1034, 845, 844, 1035, 1036, 1037, 982, 983, 984, 979, 980, 981, 1038, 1039] (by decide +kernel) (by decide +kernel)
set_option maxRecDepth 20000 in
theorem gi_wsX5_turn_r1 : GoodIn lw_tbl wsX5_turn_r1 := goodIn_r _ [834, 949, 950, 53, 951, 1060, 1062, 22, 1063, 835, 985, 986, 987, 1019, 1021, 15, 1022, 848, 849, 847, 1023, 1025, 16, 1026] (by decide +kernel) (by decide +kernel)
theorem gi_wsX5_turn : GoodIn lw_tbl wsX5_turn := goodIn_app (a := [.code yX5_turn cX5_turn 3 (some .int)]) gi_h_wsX5_turn (goodIn_app (goodIn_app gi_wsX5_turn_r1 (goodIn_app gi_wsX5_turn_r2 (goodIn_app gi_wsX5_turn_r3 gi_wsX5_turn_r4))) gi_wsX50)
set_option maxRecDepth 20000 in
theorem gi_c_gL_law_X5_turn : GoodIn lw_tbl ([.methodLink RL 140 yX5_turn, .instanceMethod yX5_turn, .selects RX5 yX5_turn yX5_turn, .initialized RX5] : List Cond) := goodIn_r _ [1056, 1057, 1058, 53] (by decide +kernel) (by decide +kernel)
theorem gL_law_X5_turn : GoodIn lw_tbl (wsV RL 140 RX5 yX5_turn wsX5_turn) := goodIn_app gi_c_gL_law_X5_turn gi_wsX5_turn
set_option maxRecDepth 20000 in
theorem gi_h_wsL_shorten : GoodIn lw_tbl [.codeWith yL_shorten cL_shorten 4 (some .int) [(0, 9, 12, 20), (0, 9, 15, 15)]] := goodIn_r _ [660] (by decide +kernel) (by decide +kernel)
set_option maxRecDepth 20000 in
theorem gi_wsL_shorten_r6 : GoodIn lw_tbl wsL_shorten_r6 := goodIn_r _ [612, 613, 614, 424, 425, 615, 616, 617, 618, 182, 619, 620, 621, 622] (by decide +kernel) (by decide +kernel)
set_option maxRecDepth 20000 in
theorem gi_wsL_shorten_r5 : GoodIn lw_tbl wsL_shorten_r5 := goodIn_r _ [271, 272, 595, 596, 597, 598, 191, 176, 192, 178, 599, 600, 601, 602, 437, 438, 439, 604, 605, 606, 607, 608, 609, 611] (by decide +kernel) (by decide +kernel)
set_option maxRecDepth 20000 in
theorem gi_wsL_shorten_r4 : GoodIn lw_tbl wsL_shorten_r4 := goodIn_r _ [578, 579, 580, 155, 184, 430, 366, 367, 368, 369, 370, 371, 372, 582, 583, 584, 585, 586, 256, 257, 589, 590, 591, 592] (by decide +kernel) (by decide +kernel)
set_option maxRecDepth 20000 in
theorem gi_wsL_shorten_r3 : GoodIn lw_tbl wsL_shorten_r3 := goodIn_r _ [573, 575, 574, 61, 174, 576, 476, 477, 51, 478, 154, 488, 158, 157, 483, 484, 485, 490, 491, 492, 493, 60, 494, 577] (by decide +kernel) (by decide +kernel)
set_option maxRecDepth 20000 in
theorem gi_wsL_shorten_r2 : GoodIn lw_tbl wsL_shorten_r2 := goodIn_r _ [668, 189, 190, 187, 188, 669, 670, 671, 672, 673, 674, 675, 610, 486, 60, 487, 480, 481, 569, 570, 571, 572, 179, 181] (by decide +kernel) (by decide +kernel)
set_option maxRecDepth 20000 in
theorem gi_wsL_shorten_r1 : GoodIn lw_tbl wsL_shorten_r1 := goodIn_r _ [549, 537, 661, 662, 663, 48, 664, 186, 504, 506, 5, 507, 508, 59, 227, 452, 453, 454, 455, 58, 665, 666, 667, 52] (by decide +kernel) (by decide +kernel)
theorem gi_wsL_shorten : GoodIn lw_tbl wsL_shorten := goodIn_app (a := [.codeWith yL_shorten cL_shorten 4 (some .int) [(0, 9, 12, 20), (0, 9, 15, 15)]]) gi_h_wsL_shorten (goodIn_app (goodIn_app (goodIn_app (goodIn_app (goodIn_app (goodIn_app gi_wsL_shorten_r1 (goodIn_app gi_wsL_shorten_r2 (goodIn_app gi_wsL_shorten_r3 (goodIn_app gi_wsL_shorten_r4 (goodIn_app gi_wsL_shorten_r5 gi_wsL_shorten_r6))))) gi_wsX30) gi_wsX40) gi_wsX20) gi_wsL_law_x2) gi_wsL_law_x1)
set_option maxRecDepth 20000 in
theorem gi_c_gL_law_L_shorten : GoodIn lw_tbl ([.methodLink RL 141 yL_shorten, .static yL_shorten, .initialized yL_shorten.cls] : List Cond) := goodIn_r _ [658, 659, 47] (by decide +kernel) (by decide +kernel)
theorem gL_law_L_shorten : GoodIn lw_tbl (va_wsS RL 141 yL_shorten wsL_shorten) := goodIn_app gi_c_gL_law_L_shorten gi_wsL_shorten
set_option maxRecDepth 20000 in
theorem gi_h_wsX5_shorten : GoodIn lw_tbl [.code yX5_shorten cX5_shorten 5 (some .int)] := goodIn_r _ [1071] (by decide +kernel) (by decide +kernel)
set_option maxRecDepth 20000 in
theorem gi_wsX5_shorten_r2 : GoodIn lw_tbl wsX5_shorten_r2 := goodIn_r _ [1082, 982, 983, 984] (by decide +kernel) (by decide +kernel)
set_option maxRecDepth 20000 in
theorem gi_wsX5_shorten_r1 : GoodIn lw_tbl wsX5_shorten_r1 := goodIn_r _ [834, 836, 1007, 1009, 13, 53, 1010, 835, 985, 986, 987, 949, 950, 951, 1072, 1074, 24, 1075, 1076, 1078, 25, 1079, 1080, 1081] (by decide +kernel) (by decide +kernel)
theorem gi_wsX5_shorten : GoodIn lw_tbl wsX5_shorten := goodIn_app (a := [.code yX5_shorten cX5_shorten 5 (some .int)]) gi_h_wsX5_shorten (goodIn_app (goodIn_app gi_wsX5_shorten_r1 gi_wsX5_shorten_r2) gi_wsX50)
set_option maxRecDepth 20000 in
theorem gi_c_gL_law_X5_shorten : GoodIn lw_tbl ([.methodLink RL 143 yX5_shorten, .instanceMethod yX5_shorten, .selects RX5 yX5_shorten yX5_shorten, .initialized RX5] : List Cond) := goodIn_r _ [1068, 1069, 1070, 53] (by decide +kernel) (by decide +kernel)
theorem gL_law_X5_shorten : GoodIn lw_tbl (wsV RL 143 RX5 yX5_shorten wsX5_shorten) := goodIn_app gi_c_gL_law_X5_shorten gi_wsX5_shorten
set_option maxRecDepth 20000 in
theorem gi_h_wsL_setTint : GoodIn lw_tbl [.codeWith yL_setTint cL_setTint 5 (some .int) [(0, 10, 13, 20), (0, 10, 17, 15), (0, 10, 21, 13)]] := goodIn_r _ [679] (by decide +kernel) (by decide +kernel)
set_option maxRecDepth 20000 in
theorem gi_wsL_setTint_r2 : GoodIn lw_tbl wsL_setTint_r2 := goodIn_r _ [455, 58, 365, 366, 367, 52, 368, 174, 369, 370, 371, 51, 372, 154, 158, 294, 295, 296, 297, 57] (by decide +kernel) (by decide +kernel)
set_option maxRecDepth 20000 in
theorem gi_wsL_setTint_r1 : GoodIn lw_tbl wsL_setTint_r1 := goodIn_r _ [549, 537, 536, 680, 681, 682, 48, 683, 195, 684, 686, 6, 687, 186, 504, 506, 5, 507, 508, 59, 227, 452, 453, 454] (by decide +kernel) (by decide +kernel)
theorem gi_wsL_setTint : GoodIn lw_tbl wsL_setTint := goodIn_app (a := [.codeWith yL_setTint cL_setTint 5 (some .int) [(0, 10, 13, 20), (0, 10, 17, 15), (0, 10, 21, 13)]]) gi_h_wsL_setTint (goodIn_app (goodIn_app (goodIn_app (goodIn_app (goodIn_app (goodIn_app (goodIn_app gi_wsL_setTint_r1 gi_wsL_setTint_r2) gi_wsX30) gi_wsX40) gi_wsX20) gi_wsL_law_x2) gi_wsL_law_x1) gi_wsL_law_x0)
set_option maxRecDepth 20000 in
theorem gi_c_gL_law_L_setTint : GoodIn lw_tbl ([.methodLink RL 144 yL_setTint, .static yL_setTint, .initialized yL_setTint.cls] : List Cond) := goodIn_r _ [677, 678, 47] (by decide +kernel) (by decide +kernel)
theorem gL_law_L_setTint : GoodIn lw_tbl (va_wsS RL 144 yL_setTint wsL_setTint) := goodIn_app gi_c_gL_law_L_setTint gi_wsL_setTint
set_option maxRecDepth 20000 in
theorem gi_h_wsX5_setTint : GoodIn lw_tbl [.code yX5_setTint cX5_setTint 4 (some .int)] := goodIn_r _ [1086] (by decide +kernel) (by decide +kernel)
set_option maxRecDepth 20000 in
theorem gi_wsX5_setTint_r2 : GoodIn lw_tbl wsX5_setTint_r2 := goodIn_r _ [984] (by decide +kernel) (by decide +kernel)
set_option maxRecDepth 20000 in
theorem gi_wsX5_setTint_r1 : GoodIn lw_tbl wsX5_setTint_r1 := goodIn_r _ [834, 839, 1007, 1009, 13, 53, 1010, 835, 985, 986, 987, 949, 950, 951, 992, 994, 12, 995, 836, 979, 980, 981, 982, 983] (by decide +kernel) (by decide +kernel)
theorem gi_wsX5_setTint : GoodIn lw_tbl wsX5_setTint := goodIn_app (a := [.code yX5_setTint cX5_setTint 4 (some .int)]) gi_h_wsX5_setTint (goodIn_app (goodIn_app gi_wsX5_setTint_r1 gi_wsX5_setTint_r2) gi_wsX50)
set_option maxRecDepth 20000 in
theorem gi_c_gL_law_X5_setTint : GoodIn lw_tbl ([.methodLink RL 146 yX5_setTint, .instanceMethod yX5_setTint, .selects RX5 yX5_setTint yX5_setTint, .initialized RX5] : List Cond) := goodIn_r _ [1083, 1084, 1085, 53] (by decide +kernel) (by decide +kernel)
theorem gL_law_X5_setTint : GoodIn lw_tbl (wsV RL 146 RX5 yX5_setTint wsX5_setTint) := goodIn_app gi_c_gL_law_X5_setTint gi_wsX5_setTint
set_option maxRecDepth 20000 in
theorem gi_h_wsL_setGain : GoodIn lw_tbl [.codeWith yL_setGain cL_setGain 4 (some .int) [(0, 9, 12, 13)]] := goodIn_r _ [690] (by decide +kernel) (by decide +kernel)
set_option maxRecDepth 20000 in
theorem gi_l167 : GoodIn lw_tbl ([.classLink RL 13 "java/lang/IllegalArgumentException", .methodLink RL 43 yX4_setGain, .instanceMethod yX4_setGain, .selects RX4 yX4_setGain yX4_setGain, .initialized RX4, .code yX4_setGain cX4_setGain 3 (some .int), .fieldLink RX4 121 "HalftoneScreens" "gain" "I", .methodLink RX4 37 yX4_needArgument, .static yX4_needArgument, .code yX4_needArgument cX4_needArgument 1 none, .classLink RX4 227 "java/lang/IllegalArgumentException", .initialized "java/lang/IllegalArgumentException"] : List Cond) := goodIn_r _ [536, 691, 692, 693, 48, 694, 231, 294, 295, 296, 297, 57] (by decide +kernel) (by decide +kernel)
theorem gi_wsL_setGain : GoodIn lw_tbl wsL_setGain := goodIn_app (a := [.codeWith yL_setGain cL_setGain 4 (some .int) [(0, 9, 12, 13)]]) gi_h_wsL_setGain (goodIn_app (goodIn_app gi_l167 gi_wsX40) gi_wsL_law_x0)
set_option maxRecDepth 20000 in
theorem gi_c_gL_law_L_setGain : GoodIn lw_tbl ([.methodLink RL 147 yL_setGain, .static yL_setGain, .initialized yL_setGain.cls] : List Cond) := goodIn_r _ [688, 689, 47] (by decide +kernel) (by decide +kernel)
theorem gL_law_L_setGain : GoodIn lw_tbl (va_wsS RL 147 yL_setGain wsL_setGain) := goodIn_app gi_c_gL_law_L_setGain gi_wsL_setGain
set_option maxRecDepth 20000 in
theorem gi_h_wsX5_setGain : GoodIn lw_tbl [.code yX5_setGain cX5_setGain 3 (some .int)] := goodIn_r _ [1090] (by decide +kernel) (by decide +kernel)
set_option maxRecDepth 20000 in
theorem gi_l172 : GoodIn lw_tbl ([.fieldLink RX5 59 "HalftoneScreensModel" "thrown" "I", .fieldLink RX5 191 "HalftoneScreensModel" "gain" "I", .methodLink RX5 71 yX5_within, .static yX5_within, .initialized RX5, .code yX5_within cX5_within 3 (some .boolean)] : List Cond) := goodIn_r _ [834, 840, 949, 950, 53, 951] (by decide +kernel) (by decide +kernel)
theorem gi_wsX5_setGain : GoodIn lw_tbl wsX5_setGain := goodIn_app (a := [.code yX5_setGain cX5_setGain 3 (some .int)]) gi_h_wsX5_setGain (goodIn_app gi_l172 gi_wsX50)
set_option maxRecDepth 20000 in
theorem gi_c_gL_law_X5_setGain : GoodIn lw_tbl ([.methodLink RL 149 yX5_setGain, .instanceMethod yX5_setGain, .selects RX5 yX5_setGain yX5_setGain, .initialized RX5] : List Cond) := goodIn_r _ [1087, 1088, 1089, 53] (by decide +kernel) (by decide +kernel)
theorem gL_law_X5_setGain : GoodIn lw_tbl (wsV RL 149 RX5 yX5_setGain wsX5_setGain) := goodIn_app gi_c_gL_law_X5_setGain gi_wsX5_setGain
set_option maxRecDepth 20000 in
theorem gi_h_wsL_screen : GoodIn lw_tbl [.codeWith yL_screen cL_screen 5 (some .int) [(0, 10, 13, 20), (0, 10, 17, 13), (0, 10, 21, 15)]] := goodIn_r _ [697] (by decide +kernel) (by decide +kernel)
set_option maxRecDepth 20000 in
theorem gi_wsL_screen_r3 : GoodIn lw_tbl wsL_screen_r3 := goodIn_r _ [370, 371, 372] (by decide +kernel) (by decide +kernel)
set_option maxRecDepth 20000 in
theorem gi_wsL_screen_r2 : GoodIn lw_tbl wsL_screen_r2 := goodIn_r _ [455, 58, 381, 382, 383, 52, 384, 187, 188, 189, 190, 191, 192, 194, 174, 385, 386, 387, 51, 388, 154, 157, 158, 389] (by decide +kernel) (by decide +kernel)
set_option maxRecDepth 20000 in
theorem gi_wsL_screen_r1 : GoodIn lw_tbl wsL_screen_r1 := goodIn_r _ [549, 536, 537, 698, 699, 700, 48, 701, 186, 504, 506, 5, 507, 508, 59, 227, 294, 295, 296, 297, 57, 452, 453, 454] (by decide +kernel) (by decide +kernel)
theorem gi_wsL_screen : GoodIn lw_tbl wsL_screen := goodIn_app (a := [.codeWith yL_screen cL_screen 5 (some .int) [(0, 10, 13, 20), (0, 10, 17, 13), (0, 10, 21, 15)]]) gi_h_wsL_screen (goodIn_app (goodIn_app (goodIn_app (goodIn_app (goodIn_app (goodIn_app (goodIn_app gi_wsL_screen_r1 (goodIn_app gi_wsL_screen_r2 gi_wsL_screen_r3)) gi_wsX30) gi_wsX40) gi_wsX20) gi_wsL_law_x2) gi_wsL_law_x0) gi_wsL_law_x1)
set_option maxRecDepth 20000 in
theorem gi_c_gL_law_L_screen : GoodIn lw_tbl ([.methodLink RL 150 yL_screen, .static yL_screen, .initialized yL_screen.cls] : List Cond) := goodIn_r _ [695, 696, 47] (by decide +kernel) (by decide +kernel)
theorem gL_law_L_screen : GoodIn lw_tbl (va_wsS RL 150 yL_screen wsL_screen) := goodIn_app gi_c_gL_law_L_screen gi_wsL_screen
set_option maxRecDepth 20000 in
theorem gi_h_wsX5_screen : GoodIn lw_tbl [.code yX5_screen cX5_screen 3 (some .int)] := goodIn_r _ [1094] (by decide +kernel) (by decide +kernel)
set_option maxRecDepth 20000 in
theorem gi_wsX5_screen_r2 : GoodIn lw_tbl wsX5_screen_r2 := goodIn_r _ [1027, 1029, 17, 1030, 1031, 1033, 18, 1034, 1035, 1036, 1037, 982, 983, 984, 979, 980, 981, 1038, 1039, 1040, 992, 994, 12, 995] (by decide +kernel) (by decide +kernel)
set_option maxRecDepth 20000 in
theorem gi_wsX5_screen_r1 : GoodIn lw_tbl wsX5_screen_r1 := goodIn_r _ [834, 949, 950, 53, 951, 1060, 1062, 22, 1063, 835, 985, 986, 987, 1095, 1097, 26, 1098, 836, 843, 844, 845, 837, 838, 839] (by decide +kernel) (by decide +kernel)
theorem gi_wsX5_screen : GoodIn lw_tbl wsX5_screen := goodIn_app (a := [.code yX5_screen cX5_screen 3 (some .int)]) gi_h_wsX5_screen (goodIn_app (goodIn_app gi_wsX5_screen_r1 gi_wsX5_screen_r2) gi_wsX50)
set_option maxRecDepth 20000 in
theorem gi_c_gL_law_X5_screen : GoodIn lw_tbl ([.methodLink RL 152 yX5_screen, .instanceMethod yX5_screen, .selects RX5 yX5_screen yX5_screen, .initialized RX5] : List Cond) := goodIn_r _ [1091, 1092, 1093, 53] (by decide +kernel) (by decide +kernel)
theorem gL_law_X5_screen : GoodIn lw_tbl (wsV RL 152 RX5 yX5_screen wsX5_screen) := goodIn_app gi_c_gL_law_X5_screen gi_wsX5_screen
set_option maxRecDepth 20000 in
theorem gi_h_wsL_place : GoodIn lw_tbl [.codeWith yL_place cL_place 6 (some .int) [(0, 12, 15, 20), (0, 12, 19, 13), (0, 12, 23, 15)]] := goodIn_r _ [704] (by decide +kernel) (by decide +kernel)
set_option maxRecDepth 20000 in
theorem gi_wsL_place_r3 : GoodIn lw_tbl wsL_place_r3 := goodIn_r _ [494] (by decide +kernel) (by decide +kernel)
set_option maxRecDepth 20000 in
theorem gi_wsL_place_r2 : GoodIn lw_tbl wsL_place_r2 := goodIn_r _ [57, 452, 453, 454, 455, 58, 712, 590, 591, 51, 592, 158, 154, 157, 582, 583, 584, 585, 60, 586, 490, 491, 492, 493] (by decide +kernel) (by decide +kernel)
set_option maxRecDepth 20000 in
theorem gi_wsL_place_r1 : GoodIn lw_tbl wsL_place_r1 := goodIn_r _ [549, 536, 537, 705, 706, 707, 48, 708, 186, 175, 504, 506, 5, 507, 508, 59, 227, 709, 710, 711, 294, 295, 296, 297] (by decide +kernel) (by decide +kernel)
theorem gi_wsL_place : GoodIn lw_tbl wsL_place := goodIn_app (a := [.codeWith yL_place cL_place 6 (some .int) [(0, 12, 15, 20), (0, 12, 19, 13), (0, 12, 23, 15)]]) gi_h_wsL_place (goodIn_app (goodIn_app (goodIn_app (goodIn_app (goodIn_app (goodIn_app (goodIn_app gi_wsL_place_r1 (goodIn_app gi_wsL_place_r2 gi_wsL_place_r3)) gi_wsX30) gi_wsX40) gi_wsX20) gi_wsL_law_x2) gi_wsL_law_x0) gi_wsL_law_x1)
set_option maxRecDepth 20000 in
theorem gi_c_gL_law_L_place : GoodIn lw_tbl ([.methodLink RL 153 yL_place, .static yL_place, .initialized yL_place.cls] : List Cond) := goodIn_r _ [702, 703, 47] (by decide +kernel) (by decide +kernel)
theorem gL_law_L_place : GoodIn lw_tbl (va_wsS RL 153 yL_place wsL_place) := goodIn_app gi_c_gL_law_L_place gi_wsL_place
set_option maxRecDepth 20000 in
theorem gi_h_wsX5_place : GoodIn lw_tbl [.code yX5_place cX5_place 4 (some .int)] := goodIn_r _ [1102] (by decide +kernel) (by decide +kernel)
set_option maxRecDepth 20000 in
theorem gi_wsX5_place_r2 : GoodIn lw_tbl wsX5_place_r2 := goodIn_r _ [1034, 845, 843, 844, 1035, 1036, 1037, 982, 983, 984, 979, 980, 981, 1038, 1039, 1040, 1106, 1108, 27, 1109, 1049, 1050, 1051] (by decide +kernel) (by decide +kernel)
set_option maxRecDepth 20000 in
theorem gi_wsX5_place_r1 : GoodIn lw_tbl wsX5_place_r1 := goodIn_r _ [834, 1103, 1104, 53, 1105, 949, 950, 951, 1060, 1062, 22, 1063, 835, 985, 986, 987, 1027, 1029, 17, 1030, 836, 1031, 1033, 18] (by decide +kernel) (by decide +kernel)
theorem gi_wsX5_place : GoodIn lw_tbl wsX5_place := goodIn_app (a := [.code yX5_place cX5_place 4 (some .int)]) gi_h_wsX5_place (goodIn_app (goodIn_app gi_wsX5_place_r1 gi_wsX5_place_r2) gi_wsX50)
set_option maxRecDepth 20000 in
theorem gi_c_gL_law_X5_place : GoodIn lw_tbl ([.methodLink RL 156 yX5_place, .instanceMethod yX5_place, .selects RX5 yX5_place yX5_place, .initialized RX5] : List Cond) := goodIn_r _ [1099, 1100, 1101, 53] (by decide +kernel) (by decide +kernel)
theorem gL_law_X5_place : GoodIn lw_tbl (wsV RL 156 RX5 yX5_place wsX5_place) := goodIn_app gi_c_gL_law_X5_place gi_wsX5_place
set_option maxRecDepth 20000 in
theorem gi_h_wsL_growth : GoodIn lw_tbl [.codeWith yL_growth cL_growth 6 (some .int) [(0, 12, 15, 20), (0, 12, 19, 13), (0, 12, 23, 15)]] := goodIn_r _ [715] (by decide +kernel) (by decide +kernel)
set_option maxRecDepth 20000 in
theorem gi_wsL_growth_r2 : GoodIn lw_tbl wsL_growth_r2 := goodIn_r _ [722, 52, 723, 185, 430, 366, 367, 368, 174, 369, 370, 371, 51, 372, 154, 158, 452, 453, 454, 455, 58, 390, 256, 257] (by decide +kernel) (by decide +kernel)
set_option maxRecDepth 20000 in
theorem gi_wsL_growth_r1 : GoodIn lw_tbl wsL_growth_r1 := goodIn_r _ [549, 536, 537, 716, 717, 718, 48, 719, 177, 180, 504, 506, 5, 507, 508, 59, 227, 294, 295, 296, 297, 57, 720, 721] (by decide +kernel) (by decide +kernel)
theorem gi_wsL_growth : GoodIn lw_tbl wsL_growth := goodIn_app (a := [.codeWith yL_growth cL_growth 6 (some .int) [(0, 12, 15, 20), (0, 12, 19, 13), (0, 12, 23, 15)]]) gi_h_wsL_growth (goodIn_app (goodIn_app (goodIn_app (goodIn_app (goodIn_app (goodIn_app (goodIn_app gi_wsL_growth_r1 gi_wsL_growth_r2) gi_wsX30) gi_wsX40) gi_wsX20) gi_wsL_law_x2) gi_wsL_law_x0) gi_wsL_law_x1)
set_option maxRecDepth 20000 in
theorem gi_c_gL_law_L_growth : GoodIn lw_tbl ([.methodLink RL 157 yL_growth, .static yL_growth, .initialized yL_growth.cls] : List Cond) := goodIn_r _ [713, 714, 47] (by decide +kernel) (by decide +kernel)
theorem gL_law_L_growth : GoodIn lw_tbl (va_wsS RL 157 yL_growth wsL_growth) := goodIn_app gi_c_gL_law_L_growth gi_wsL_growth
set_option maxRecDepth 20000 in
theorem gi_h_wsX5_growth : GoodIn lw_tbl [.code yX5_growth cX5_growth 4 (some .int)] := goodIn_r _ [1113] (by decide +kernel) (by decide +kernel)
set_option maxRecDepth 20000 in
theorem gi_wsX5_growth_r3 : GoodIn lw_tbl wsX5_growth_r3 := goodIn_r _ [1041, 1043, 19, 1044, 838, 837, 1045, 1047, 20, 1048, 1049, 1050, 1051] (by decide +kernel) (by decide +kernel)
set_option maxRecDepth 20000 in
theorem gi_wsX5_growth_r2 : GoodIn lw_tbl wsX5_growth_r2 := goodIn_r _ [983, 984, 1023, 1025, 16, 1026, 848, 843, 1027, 1029, 17, 1030, 1031, 1033, 18, 1034, 845, 844, 1035, 1036, 1037, 1038, 1039, 1040] (by decide +kernel) (by decide +kernel)
set_option maxRecDepth 20000 in
theorem gi_wsX5_growth_r1 : GoodIn lw_tbl wsX5_growth_r1 := goodIn_r _ [834, 846, 847, 949, 950, 53, 951, 1060, 1062, 22, 1063, 835, 985, 986, 987, 992, 994, 12, 995, 836, 979, 980, 981, 982] (by decide +kernel) (by decide +kernel)
theorem gi_wsX5_growth : GoodIn lw_tbl wsX5_growth := goodIn_app (a := [.code yX5_growth cX5_growth 4 (some .int)]) gi_h_wsX5_growth (goodIn_app (goodIn_app gi_wsX5_growth_r1 (goodIn_app gi_wsX5_growth_r2 gi_wsX5_growth_r3)) gi_wsX50)
set_option maxRecDepth 20000 in
theorem gi_c_gL_law_X5_growth : GoodIn lw_tbl ([.methodLink RL 159 yX5_growth, .instanceMethod yX5_growth, .selects RX5 yX5_growth yX5_growth, .initialized RX5] : List Cond) := goodIn_r _ [1110, 1111, 1112, 53] (by decide +kernel) (by decide +kernel)
theorem gL_law_X5_growth : GoodIn lw_tbl (wsV RL 159 RX5 yX5_growth wsX5_growth) := goodIn_app gi_c_gL_law_X5_growth gi_wsX5_growth
set_option maxRecDepth 20000 in
theorem gi_h_wsL_placeOf : GoodIn lw_tbl [.codeWith yL_placeOf cL_placeOf 5 (some .int) [(0, 10, 13, 20), (0, 10, 17, 15)]] := goodIn_r _ [726] (by decide +kernel) (by decide +kernel)
set_option maxRecDepth 20000 in
theorem gi_wsL_placeOf_r2 : GoodIn lw_tbl wsL_placeOf_r2 := goodIn_r _ [368, 174, 369, 370, 371, 51, 372, 154, 158, 452, 453, 454, 455, 58, 390, 256, 257] (by decide +kernel) (by decide +kernel)
set_option maxRecDepth 20000 in
theorem gi_wsL_placeOf_r1 : GoodIn lw_tbl wsL_placeOf_r1 := goodIn_r _ [549, 537, 727, 728, 729, 48, 730, 183, 504, 506, 5, 507, 508, 59, 227, 720, 721, 722, 52, 723, 185, 430, 366, 367] (by decide +kernel) (by decide +kernel)
