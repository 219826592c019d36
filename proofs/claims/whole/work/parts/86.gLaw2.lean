-- the words of the methods that the law calls, by their places among the tables (laid by lawplaces.py)
theorem gi_wsL_placeOf : GoodIn lw_tbl wsL_placeOf := goodIn_app (a := [.codeWith yL_placeOf cL_placeOf 5 (some .int) [(0, 10, 13, 20), (0, 10, 17, 15)]]) gi_h_wsL_placeOf (goodIn_app (goodIn_app (goodIn_app (goodIn_app (goodIn_app (goodIn_app gi_wsL_placeOf_r1 gi_wsL_placeOf_r2) gi_wsX30) gi_wsX40) gi_wsX20) gi_wsL_law_x2) gi_wsL_law_x1)
set_option maxRecDepth 20000 in
theorem gi_c_gL_law_L_placeOf : GoodIn lw_tbl ([.methodLink RL 160 yL_placeOf, .static yL_placeOf, .initialized yL_placeOf.cls] : List Cond) := goodIn_r _ [724, 725, 47] (by decide +kernel) (by decide +kernel)
theorem gL_law_L_placeOf : GoodIn lw_tbl (va_wsS RL 160 yL_placeOf wsL_placeOf) := goodIn_app gi_c_gL_law_L_placeOf gi_wsL_placeOf
set_option maxRecDepth 20000 in
theorem gi_h_wsX5_placeOf : GoodIn lw_tbl [.code yX5_placeOf cX5_placeOf 4 (some .int)] := goodIn_r _ [1117] (by decide +kernel) (by decide +kernel)
set_option maxRecDepth 20000 in
theorem gi_wsX5_placeOf_r3 : GoodIn lw_tbl wsX5_placeOf_r3 := goodIn_r _ [1041, 1043, 19, 1044, 838, 837, 1045, 1047, 20, 1048, 1049, 1050, 1051] (by decide +kernel) (by decide +kernel)
set_option maxRecDepth 20000 in
theorem gi_wsX5_placeOf_r2 : GoodIn lw_tbl wsX5_placeOf_r2 := goodIn_r _ [984, 1023, 1025, 16, 1026, 848, 846, 843, 1027, 1029, 17, 1030, 1031, 1033, 18, 1034, 845, 844, 1035, 1036, 1037, 1038, 1039, 1040] (by decide +kernel) (by decide +kernel)
set_option maxRecDepth 20000 in
theorem gi_wsX5_placeOf_r1 : GoodIn lw_tbl wsX5_placeOf_r1 := goodIn_r _ [834, 847, 1007, 1009, 13, 53, 1010, 835, 985, 986, 987, 949, 950, 951, 992, 994, 12, 995, 836, 979, 980, 981, 982, 983] (by decide +kernel) (by decide +kernel)
theorem gi_wsX5_placeOf : GoodIn lw_tbl wsX5_placeOf := goodIn_app (a := [.code yX5_placeOf cX5_placeOf 4 (some .int)]) gi_h_wsX5_placeOf (goodIn_app (goodIn_app gi_wsX5_placeOf_r1 (goodIn_app gi_wsX5_placeOf_r2 gi_wsX5_placeOf_r3)) gi_wsX50)
set_option maxRecDepth 20000 in
theorem gi_c_gL_law_X5_placeOf : GoodIn lw_tbl ([.methodLink RL 162 yX5_placeOf, .instanceMethod yX5_placeOf, .selects RX5 yX5_placeOf yX5_placeOf, .initialized RX5] : List Cond) := goodIn_r _ [1114, 1115, 1116, 53] (by decide +kernel) (by decide +kernel)
theorem gL_law_X5_placeOf : GoodIn lw_tbl (wsV RL 162 RX5 yX5_placeOf wsX5_placeOf) := goodIn_app gi_c_gL_law_X5_placeOf gi_wsX5_placeOf
set_option maxRecDepth 20000 in
theorem gi_h_wsL_pixel : GoodIn lw_tbl [.codeWith yL_pixel cL_pixel 5 (some .int) [(0, 10, 13, 13)]] := goodIn_r _ [733] (by decide +kernel) (by decide +kernel)
set_option maxRecDepth 20000 in
theorem gi_wsL_pixel_r3 : GoodIn lw_tbl wsL_pixel_r3 := goodIn_r _ [399, 400, 179, 256, 257] (by decide +kernel) (by decide +kernel)
set_option maxRecDepth 20000 in
theorem gi_wsL_pixel_r2 : GoodIn lw_tbl wsL_pixel_r2 := goodIn_r _ [745, 174, 194, 589, 590, 591, 51, 592, 158, 154, 157, 582, 583, 584, 585, 60, 586, 490, 491, 492, 493, 494, 431, 398] (by decide +kernel) (by decide +kernel)
set_option maxRecDepth 20000 in
theorem gi_wsL_pixel_r1 : GoodIn lw_tbl wsL_pixel_r1 := goodIn_r _ [536, 734, 735, 736, 48, 737, 709, 710, 711, 294, 295, 296, 297, 57, 738, 740, 7, 741, 227, 186, 742, 743, 744, 52] (by decide +kernel) (by decide +kernel)
theorem gi_wsL_pixel : GoodIn lw_tbl wsL_pixel := goodIn_app (a := [.codeWith yL_pixel cL_pixel 5 (some .int) [(0, 10, 13, 13)]]) gi_h_wsL_pixel (goodIn_app (goodIn_app (goodIn_app (goodIn_app (goodIn_app gi_wsL_pixel_r1 (goodIn_app gi_wsL_pixel_r2 gi_wsL_pixel_r3)) gi_wsX40) gi_wsX30) gi_wsX20) gi_wsL_law_x0)
set_option maxRecDepth 20000 in
theorem gi_c_gL_law_L_pixel : GoodIn lw_tbl ([.methodLink RL 163 yL_pixel, .static yL_pixel, .initialized yL_pixel.cls] : List Cond) := goodIn_r _ [731, 732, 47] (by decide +kernel) (by decide +kernel)
theorem gL_law_L_pixel : GoodIn lw_tbl (va_wsS RL 163 yL_pixel wsL_pixel) := goodIn_app gi_c_gL_law_L_pixel gi_wsL_pixel
set_option maxRecDepth 20000 in
theorem gi_h_wsX5_pixel : GoodIn lw_tbl [.code yX5_pixel cX5_pixel 3 (some .int)] := goodIn_r _ [1121] (by decide +kernel) (by decide +kernel)
set_option maxRecDepth 20000 in
theorem gi_wsX5_pixel_r4 : GoodIn lw_tbl wsX5_pixel_r4 := goodIn_r _ [1106, 1108, 27, 1109] (by decide +kernel) (by decide +kernel)
set_option maxRecDepth 20000 in
theorem gi_wsX5_pixel_r3 : GoodIn lw_tbl wsX5_pixel_r3 := goodIn_r _ [12, 995, 1041, 1043, 19, 1044, 838, 837, 1045, 1047, 20, 1048, 1049, 1050, 1051, 1126, 1128, 29, 1129, 1130, 1132, 30, 1133, 839] (by decide +kernel) (by decide +kernel)
set_option maxRecDepth 20000 in
theorem gi_wsX5_pixel_r2 : GoodIn lw_tbl wsX5_pixel_r2 := goodIn_r _ [846, 1027, 1029, 17, 1030, 836, 1031, 1033, 18, 1034, 1035, 1036, 1037, 982, 983, 984, 979, 980, 981, 1038, 1039, 1040, 992, 994] (by decide +kernel) (by decide +kernel)
set_option maxRecDepth 20000 in
theorem gi_wsX5_pixel_r1 : GoodIn lw_tbl wsX5_pixel_r1 := goodIn_r _ [834, 1103, 1104, 53, 1105, 949, 950, 951, 1122, 1124, 28, 1125, 835, 848, 856, 847, 857, 843, 844, 845, 1023, 1025, 16, 1026] (by decide +kernel) (by decide +kernel)
theorem gi_wsX5_pixel : GoodIn lw_tbl wsX5_pixel := goodIn_app (a := [.code yX5_pixel cX5_pixel 3 (some .int)]) gi_h_wsX5_pixel (goodIn_app (goodIn_app gi_wsX5_pixel_r1 (goodIn_app gi_wsX5_pixel_r2 (goodIn_app gi_wsX5_pixel_r3 gi_wsX5_pixel_r4))) gi_wsX50)
set_option maxRecDepth 20000 in
theorem gi_c_gL_law_X5_pixel : GoodIn lw_tbl ([.methodLink RL 165 yX5_pixel, .instanceMethod yX5_pixel, .selects RX5 yX5_pixel yX5_pixel, .initialized RX5] : List Cond) := goodIn_r _ [1118, 1119, 1120, 53] (by decide +kernel) (by decide +kernel)
theorem gL_law_X5_pixel : GoodIn lw_tbl (wsV RL 165 RX5 yX5_pixel wsX5_pixel) := goodIn_app gi_c_gL_law_X5_pixel gi_wsX5_pixel
set_option maxRecDepth 20000 in
theorem gi_h_wsL_inked : GoodIn lw_tbl [.codeWith yL_inked cL_inked 8 (some .int) [(0, 16, 19, 20), (0, 16, 23, 13), (0, 16, 27, 15)]] := goodIn_r _ [748] (by decide +kernel) (by decide +kernel)
set_option maxRecDepth 20000 in
theorem gi_wsL_inked_r3 : GoodIn lw_tbl wsL_inked_r3 := goodIn_r _ [583, 584, 585, 60, 586, 490, 491, 492, 493, 494, 431, 398, 399, 400, 179, 256, 257] (by decide +kernel) (by decide +kernel)
set_option maxRecDepth 20000 in
theorem gi_wsL_inked_r2 : GoodIn lw_tbl wsL_inked_r2 := goodIn_r _ [296, 297, 57, 452, 453, 454, 455, 58, 742, 743, 744, 52, 745, 174, 194, 589, 590, 591, 51, 592, 158, 154, 157, 582] (by decide +kernel) (by decide +kernel)
set_option maxRecDepth 20000 in
theorem gi_wsL_inked_r1 : GoodIn lw_tbl wsL_inked_r1 := goodIn_r _ [549, 536, 537, 749, 750, 751, 48, 752, 186, 504, 506, 5, 507, 508, 59, 227, 709, 710, 711, 753, 754, 755, 294, 295] (by decide +kernel) (by decide +kernel)
theorem gi_wsL_inked : GoodIn lw_tbl wsL_inked := goodIn_app (a := [.codeWith yL_inked cL_inked 8 (some .int) [(0, 16, 19, 20), (0, 16, 23, 13), (0, 16, 27, 15)]]) gi_h_wsL_inked (goodIn_app (goodIn_app (goodIn_app (goodIn_app (goodIn_app (goodIn_app (goodIn_app gi_wsL_inked_r1 (goodIn_app gi_wsL_inked_r2 gi_wsL_inked_r3)) gi_wsX30) gi_wsX40) gi_wsX20) gi_wsL_law_x2) gi_wsL_law_x0) gi_wsL_law_x1)
set_option maxRecDepth 20000 in
theorem gi_c_gL_law_L_inked : GoodIn lw_tbl ([.methodLink RL 166 yL_inked, .static yL_inked, .initialized yL_inked.cls] : List Cond) := goodIn_r _ [746, 747, 47] (by decide +kernel) (by decide +kernel)
theorem gL_law_L_inked : GoodIn lw_tbl (va_wsS RL 166 yL_inked wsL_inked) := goodIn_app gi_c_gL_law_L_inked gi_wsL_inked
set_option maxRecDepth 20000 in
theorem gi_h_wsX5_inked : GoodIn lw_tbl [.code yX5_inked cX5_inked 8 (some .int)] := goodIn_r _ [1137] (by decide +kernel) (by decide +kernel)
set_option maxRecDepth 20000 in
theorem gi_wsX5_inked_r4 : GoodIn lw_tbl wsX5_inked_r4 := goodIn_r _ [30, 1133, 839, 1106, 1108, 27, 1109] (by decide +kernel) (by decide +kernel)
set_option maxRecDepth 20000 in
theorem gi_wsX5_inked_r3 : GoodIn lw_tbl wsX5_inked_r3 := goodIn_r _ [980, 981, 1038, 1039, 1040, 992, 994, 12, 995, 1041, 1043, 19, 1044, 838, 837, 1045, 1047, 20, 1048, 1049, 1050, 1051, 1130, 1132] (by decide +kernel) (by decide +kernel)
set_option maxRecDepth 20000 in
theorem gi_wsX5_inked_r2 : GoodIn lw_tbl wsX5_inked_r2 := goodIn_r _ [843, 844, 845, 1023, 1025, 16, 1026, 846, 1027, 1029, 17, 1030, 836, 1031, 1033, 18, 1034, 1035, 1036, 1037, 982, 983, 984, 979] (by decide +kernel) (by decide +kernel)
set_option maxRecDepth 20000 in
theorem gi_wsX5_inked_r1 : GoodIn lw_tbl wsX5_inked_r1 := goodIn_r _ [834, 1103, 1104, 53, 1105, 949, 950, 951, 1060, 1062, 22, 1063, 835, 985, 986, 987, 1122, 1124, 28, 1125, 848, 856, 847, 857] (by decide +kernel) (by decide +kernel)
theorem gi_wsX5_inked : GoodIn lw_tbl wsX5_inked := goodIn_app (a := [.code yX5_inked cX5_inked 8 (some .int)]) gi_h_wsX5_inked (goodIn_app (goodIn_app gi_wsX5_inked_r1 (goodIn_app gi_wsX5_inked_r2 (goodIn_app gi_wsX5_inked_r3 gi_wsX5_inked_r4))) gi_wsX50)
set_option maxRecDepth 20000 in
theorem gi_c_gL_law_X5_inked : GoodIn lw_tbl ([.methodLink RL 169 yX5_inked, .instanceMethod yX5_inked, .selects RX5 yX5_inked yX5_inked, .initialized RX5] : List Cond) := goodIn_r _ [1134, 1135, 1136, 53] (by decide +kernel) (by decide +kernel)
theorem gL_law_X5_inked : GoodIn lw_tbl (wsV RL 169 RX5 yX5_inked wsX5_inked) := goodIn_app gi_c_gL_law_X5_inked gi_wsX5_inked
set_option maxRecDepth 20000 in
theorem gi_h_wsL_dots : GoodIn lw_tbl [.codeWith yL_dots cL_dots 5 (some .int) [(0, 10, 13, 20), (0, 10, 17, 15), (0, 10, 21, 13)]] := goodIn_r _ [758] (by decide +kernel) (by decide +kernel)
set_option maxRecDepth 20000 in
theorem gi_wsL_dots_r4 : GoodIn lw_tbl wsL_dots_r4 := goodIn_r _ [119, 118, 116, 117, 407, 408, 409, 410, 411, 412, 413, 414, 125, 126, 415, 416, 417, 418, 184] (by decide +kernel) (by decide +kernel)
set_option maxRecDepth 20000 in
theorem gi_wsL_dots_r3 : GoodIn lw_tbl wsL_dots_r3 := goodIn_r _ [50, 394, 120, 122, 115, 124, 423, 424, 60, 425, 271, 272, 396, 397, 398, 399, 400, 179, 256, 257, 403, 404, 405, 406] (by decide +kernel) (by decide +kernel)
set_option maxRecDepth 20000 in
theorem gi_wsL_dots_r2 : GoodIn lw_tbl wsL_dots_r2 := goodIn_r _ [454, 455, 58, 365, 366, 367, 52, 368, 174, 369, 370, 371, 51, 372, 154, 158, 294, 295, 296, 297, 57, 391, 392, 393] (by decide +kernel) (by decide +kernel)
set_option maxRecDepth 20000 in
theorem gi_wsL_dots_r1 : GoodIn lw_tbl wsL_dots_r1 := goodIn_r _ [549, 537, 536, 759, 760, 761, 48, 762, 229, 121, 684, 686, 6, 687, 186, 504, 506, 5, 507, 508, 59, 227, 452, 453] (by decide +kernel) (by decide +kernel)
theorem gi_wsL_dots : GoodIn lw_tbl wsL_dots := goodIn_app (a := [.codeWith yL_dots cL_dots 5 (some .int) [(0, 10, 13, 20), (0, 10, 17, 15), (0, 10, 21, 13)]]) gi_h_wsL_dots (goodIn_app (goodIn_app (goodIn_app (goodIn_app (goodIn_app (goodIn_app (goodIn_app (goodIn_app gi_wsL_dots_r1 (goodIn_app gi_wsL_dots_r2 (goodIn_app gi_wsL_dots_r3 gi_wsL_dots_r4))) gi_wsX40) gi_wsX00) gi_wsX30) gi_wsX20) gi_wsL_law_x2) gi_wsL_law_x1) gi_wsL_law_x0)
set_option maxRecDepth 20000 in
theorem gi_c_gL_law_L_dots : GoodIn lw_tbl ([.methodLink RL 170 yL_dots, .static yL_dots, .initialized yL_dots.cls] : List Cond) := goodIn_r _ [756, 757, 47] (by decide +kernel) (by decide +kernel)
theorem gL_law_L_dots : GoodIn lw_tbl (va_wsS RL 170 yL_dots wsL_dots) := goodIn_app gi_c_gL_law_L_dots gi_wsL_dots
set_option maxRecDepth 20000 in
theorem gi_h_wsX5_dots : GoodIn lw_tbl [.code yX5_dots cX5_dots 3 (some .int)] := goodIn_r _ [1141] (by decide +kernel) (by decide +kernel)
set_option maxRecDepth 20000 in
theorem gi_wsX5_dots_r4 : GoodIn lw_tbl wsX5_dots_r4 := goodIn_r _ [1150, 1152, 33, 1153, 862, 865, 859, 861, 860, 1154, 1156, 34, 1157, 1106, 1108, 27, 1109, 1158, 1160, 35, 1161, 863, 864] (by decide +kernel) (by decide +kernel)
set_option maxRecDepth 20000 in
theorem gi_wsX5_dots_r3 : GoodIn lw_tbl wsX5_dots_r3 := goodIn_r _ [1036, 1037, 1038, 1039, 1040, 1041, 1043, 19, 1044, 838, 837, 1045, 1047, 20, 1048, 1049, 1050, 1051, 1146, 1148, 32, 1149, 867, 858] (by decide +kernel) (by decide +kernel)
set_option maxRecDepth 20000 in
theorem gi_wsX5_dots_r2 : GoodIn lw_tbl wsX5_dots_r2 := goodIn_r _ [980, 981, 982, 983, 984, 1023, 1025, 16, 1026, 848, 846, 843, 847, 1027, 1029, 17, 1030, 1031, 1033, 18, 1034, 845, 844, 1035] (by decide +kernel) (by decide +kernel)
set_option maxRecDepth 20000 in
theorem gi_wsX5_dots_r1 : GoodIn lw_tbl wsX5_dots_r1 := goodIn_r _ [834, 866, 1142, 1144, 31, 53, 1145, 1007, 1009, 13, 1010, 835, 985, 986, 987, 949, 950, 951, 992, 994, 12, 995, 836, 979] (by decide +kernel) (by decide +kernel)
theorem gi_wsX5_dots : GoodIn lw_tbl wsX5_dots := goodIn_app (a := [.code yX5_dots cX5_dots 3 (some .int)]) gi_h_wsX5_dots (goodIn_app (goodIn_app gi_wsX5_dots_r1 (goodIn_app gi_wsX5_dots_r2 (goodIn_app gi_wsX5_dots_r3 gi_wsX5_dots_r4))) gi_wsX50)
set_option maxRecDepth 20000 in
theorem gi_c_gL_law_X5_dots : GoodIn lw_tbl ([.methodLink RL 172 yX5_dots, .instanceMethod yX5_dots, .selects RX5 yX5_dots yX5_dots, .initialized RX5] : List Cond) := goodIn_r _ [1138, 1139, 1140, 53] (by decide +kernel) (by decide +kernel)
theorem gL_law_X5_dots : GoodIn lw_tbl (wsV RL 172 RX5 yX5_dots wsX5_dots) := goodIn_app gi_c_gL_law_X5_dots gi_wsX5_dots
set_option maxRecDepth 20000 in
theorem gi_h_wsL_joined : GoodIn lw_tbl [.codeWith yL_joined cL_joined 5 (some .int) [(0, 10, 13, 20), (0, 10, 17, 15), (0, 10, 21, 13)]] := goodIn_r _ [765] (by decide +kernel) (by decide +kernel)
set_option maxRecDepth 20000 in
theorem gi_wsL_joined_r4 : GoodIn lw_tbl wsL_joined_r4 := goodIn_r _ [119, 118, 116, 117, 407, 408, 409, 410, 411, 412, 413, 414, 125, 126, 415, 416, 417, 418, 184] (by decide +kernel) (by decide +kernel)
set_option maxRecDepth 20000 in
theorem gi_wsL_joined_r3 : GoodIn lw_tbl wsL_joined_r3 := goodIn_r _ [50, 394, 120, 122, 115, 124, 423, 424, 60, 425, 271, 272, 396, 397, 398, 399, 400, 179, 256, 257, 403, 404, 405, 406] (by decide +kernel) (by decide +kernel)
set_option maxRecDepth 20000 in
theorem gi_wsL_joined_r2 : GoodIn lw_tbl wsL_joined_r2 := goodIn_r _ [454, 455, 58, 365, 366, 367, 52, 368, 174, 369, 370, 371, 51, 372, 154, 158, 294, 295, 296, 297, 57, 391, 392, 393] (by decide +kernel) (by decide +kernel)
set_option maxRecDepth 20000 in
theorem gi_wsL_joined_r1 : GoodIn lw_tbl wsL_joined_r1 := goodIn_r _ [549, 537, 536, 766, 767, 768, 48, 769, 229, 123, 684, 686, 6, 687, 186, 504, 506, 5, 507, 508, 59, 227, 452, 453] (by decide +kernel) (by decide +kernel)
theorem gi_wsL_joined : GoodIn lw_tbl wsL_joined := goodIn_app (a := [.codeWith yL_joined cL_joined 5 (some .int) [(0, 10, 13, 20), (0, 10, 17, 15), (0, 10, 21, 13)]]) gi_h_wsL_joined (goodIn_app (goodIn_app (goodIn_app (goodIn_app (goodIn_app (goodIn_app (goodIn_app (goodIn_app gi_wsL_joined_r1 (goodIn_app gi_wsL_joined_r2 (goodIn_app gi_wsL_joined_r3 gi_wsL_joined_r4))) gi_wsX40) gi_wsX00) gi_wsX30) gi_wsX20) gi_wsL_law_x2) gi_wsL_law_x1) gi_wsL_law_x0)
set_option maxRecDepth 20000 in
theorem gi_c_gL_law_L_joined : GoodIn lw_tbl ([.methodLink RL 173 yL_joined, .static yL_joined, .initialized yL_joined.cls] : List Cond) := goodIn_r _ [763, 764, 47] (by decide +kernel) (by decide +kernel)
theorem gL_law_L_joined : GoodIn lw_tbl (va_wsS RL 173 yL_joined wsL_joined) := goodIn_app gi_c_gL_law_L_joined gi_wsL_joined
set_option maxRecDepth 20000 in
theorem gi_h_wsX5_joined : GoodIn lw_tbl [.code yX5_joined cX5_joined 3 (some .int)] := goodIn_r _ [1165] (by decide +kernel) (by decide +kernel)
set_option maxRecDepth 20000 in
theorem gi_wsX5_joined_r4 : GoodIn lw_tbl wsX5_joined_r4 := goodIn_r _ [1150, 1152, 33, 1153, 862, 865, 859, 861, 860, 1154, 1156, 34, 1157, 1106, 1108, 27, 1109, 1158, 1160, 35, 1161, 863, 864] (by decide +kernel) (by decide +kernel)
set_option maxRecDepth 20000 in
theorem gi_wsX5_joined_r3 : GoodIn lw_tbl wsX5_joined_r3 := goodIn_r _ [1036, 1037, 1038, 1039, 1040, 1041, 1043, 19, 1044, 838, 837, 1045, 1047, 20, 1048, 1049, 1050, 1051, 1146, 1148, 32, 1149, 866, 858] (by decide +kernel) (by decide +kernel)
set_option maxRecDepth 20000 in
theorem gi_wsX5_joined_r2 : GoodIn lw_tbl wsX5_joined_r2 := goodIn_r _ [980, 981, 982, 983, 984, 1023, 1025, 16, 1026, 848, 846, 843, 847, 1027, 1029, 17, 1030, 1031, 1033, 18, 1034, 845, 844, 1035] (by decide +kernel) (by decide +kernel)
set_option maxRecDepth 20000 in
theorem gi_wsX5_joined_r1 : GoodIn lw_tbl wsX5_joined_r1 := goodIn_r _ [834, 867, 1142, 1144, 31, 53, 1145, 1007, 1009, 13, 1010, 835, 985, 986, 987, 949, 950, 951, 992, 994, 12, 995, 836, 979] (by decide +kernel) (by decide +kernel)
theorem gi_wsX5_joined : GoodIn lw_tbl wsX5_joined := goodIn_app (a := [.code yX5_joined cX5_joined 3 (some .int)]) gi_h_wsX5_joined (goodIn_app (goodIn_app gi_wsX5_joined_r1 (goodIn_app gi_wsX5_joined_r2 (goodIn_app gi_wsX5_joined_r3 gi_wsX5_joined_r4))) gi_wsX50)
set_option maxRecDepth 20000 in
theorem gi_c_gL_law_X5_joined : GoodIn lw_tbl ([.methodLink RL 175 yX5_joined, .instanceMethod yX5_joined, .selects RX5 yX5_joined yX5_joined, .initialized RX5] : List Cond) := goodIn_r _ [1162, 1163, 1164, 53] (by decide +kernel) (by decide +kernel)
theorem gL_law_X5_joined : GoodIn lw_tbl (wsV RL 175 RX5 yX5_joined wsX5_joined) := goodIn_app gi_c_gL_law_X5_joined gi_wsX5_joined
set_option maxRecDepth 20000 in
theorem gi_h_wsL_firstJoined : GoodIn lw_tbl [.codeWith yL_firstJoined cL_firstJoined 5 (some .int) [(0, 10, 13, 20), (0, 10, 17, 13), (0, 10, 21, 15)]] := goodIn_r _ [772] (by decide +kernel) (by decide +kernel)
set_option maxRecDepth 20000 in
theorem gi_wsL_firstJoined_r4 : GoodIn lw_tbl wsL_firstJoined_r4 := goodIn_r _ [407, 408, 409, 410, 411, 412, 413, 414, 125, 126, 415, 416, 417, 418, 184] (by decide +kernel) (by decide +kernel)
set_option maxRecDepth 20000 in
theorem gi_wsL_firstJoined_r3 : GoodIn lw_tbl wsL_firstJoined_r3 := goodIn_r _ [115, 124, 423, 424, 60, 425, 271, 272, 396, 397, 398, 399, 400, 179, 256, 257, 403, 404, 405, 406, 119, 118, 116, 117] (by decide +kernel) (by decide +kernel)
set_option maxRecDepth 20000 in
theorem gi_wsL_firstJoined_r2 : GoodIn lw_tbl wsL_firstJoined_r2 := goodIn_r _ [453, 454, 455, 58, 365, 366, 367, 52, 368, 174, 369, 370, 371, 51, 372, 154, 158, 391, 392, 393, 50, 394, 120, 122] (by decide +kernel) (by decide +kernel)
set_option maxRecDepth 20000 in
theorem gi_wsL_firstJoined_r1 : GoodIn lw_tbl wsL_firstJoined_r1 := goodIn_r _ [549, 536, 537, 773, 774, 775, 48, 776, 186, 229, 123, 504, 506, 5, 507, 508, 59, 227, 294, 295, 296, 297, 57, 452] (by decide +kernel) (by decide +kernel)
theorem gi_wsL_firstJoined : GoodIn lw_tbl wsL_firstJoined := goodIn_app (a := [.codeWith yL_firstJoined cL_firstJoined 5 (some .int) [(0, 10, 13, 20), (0, 10, 17, 13), (0, 10, 21, 15)]]) gi_h_wsL_firstJoined (goodIn_app (goodIn_app (goodIn_app (goodIn_app (goodIn_app (goodIn_app (goodIn_app (goodIn_app gi_wsL_firstJoined_r1 (goodIn_app gi_wsL_firstJoined_r2 (goodIn_app gi_wsL_firstJoined_r3 gi_wsL_firstJoined_r4))) gi_wsX30) gi_wsX40) gi_wsX00) gi_wsX20) gi_wsL_law_x2) gi_wsL_law_x0) gi_wsL_law_x1)
set_option maxRecDepth 20000 in
theorem gi_c_gL_law_L_firstJoined : GoodIn lw_tbl ([.methodLink RL 176 yL_firstJoined, .static yL_firstJoined, .initialized yL_firstJoined.cls] : List Cond) := goodIn_r _ [770, 771, 47] (by decide +kernel) (by decide +kernel)
theorem gL_law_L_firstJoined : GoodIn lw_tbl (va_wsS RL 176 yL_firstJoined wsL_firstJoined) := goodIn_app gi_c_gL_law_L_firstJoined gi_wsL_firstJoined
set_option maxRecDepth 20000 in
theorem gi_h_wsX5_firstJoined : GoodIn lw_tbl [.code yX5_firstJoined cX5_firstJoined 4 (some .int)] := goodIn_r _ [1169] (by decide +kernel) (by decide +kernel)
set_option maxRecDepth 20000 in
theorem gi_wsX5_firstJoined_r4 : GoodIn lw_tbl wsX5_firstJoined_r4 := goodIn_r _ [862, 865, 859, 861, 860, 1154, 1156, 34, 1157, 1106, 1108, 27, 1109, 1158, 1160, 35, 1161, 863, 864] (by decide +kernel) (by decide +kernel)
set_option maxRecDepth 20000 in
theorem gi_wsX5_firstJoined_r3 : GoodIn lw_tbl wsX5_firstJoined_r3 := goodIn_r _ [995, 1041, 1043, 19, 1044, 838, 837, 1045, 1047, 20, 1048, 1049, 1050, 1051, 1146, 1148, 32, 1149, 866, 858, 1150, 1152, 33, 1153] (by decide +kernel) (by decide +kernel)
set_option maxRecDepth 20000 in
theorem gi_wsX5_firstJoined_r2 : GoodIn lw_tbl wsX5_firstJoined_r2 := goodIn_r _ [17, 1030, 836, 1031, 1033, 18, 1034, 845, 844, 1035, 1036, 1037, 982, 983, 984, 979, 980, 981, 1038, 1039, 1040, 992, 994, 12] (by decide +kernel) (by decide +kernel)
set_option maxRecDepth 20000 in
theorem gi_wsX5_firstJoined_r1 : GoodIn lw_tbl wsX5_firstJoined_r1 := goodIn_r _ [834, 867, 949, 950, 53, 951, 1060, 1062, 22, 1063, 835, 985, 986, 987, 1023, 1025, 16, 1026, 848, 846, 843, 847, 1027, 1029] (by decide +kernel) (by decide +kernel)
theorem gi_wsX5_firstJoined : GoodIn lw_tbl wsX5_firstJoined := goodIn_app (a := [.code yX5_firstJoined cX5_firstJoined 4 (some .int)]) gi_h_wsX5_firstJoined (goodIn_app (goodIn_app gi_wsX5_firstJoined_r1 (goodIn_app gi_wsX5_firstJoined_r2 (goodIn_app gi_wsX5_firstJoined_r3 gi_wsX5_firstJoined_r4))) gi_wsX50)
set_option maxRecDepth 20000 in
theorem gi_c_gL_law_X5_firstJoined : GoodIn lw_tbl ([.methodLink RL 178 yX5_firstJoined, .instanceMethod yX5_firstJoined, .selects RX5 yX5_firstJoined yX5_firstJoined, .initialized RX5] : List Cond) := goodIn_r _ [1166, 1167, 1168, 53] (by decide +kernel) (by decide +kernel)
theorem gL_law_X5_firstJoined : GoodIn lw_tbl (wsV RL 178 RX5 yX5_firstJoined wsX5_firstJoined) := goodIn_app gi_c_gL_law_X5_firstJoined gi_wsX5_firstJoined
set_option maxRecDepth 20000 in
theorem gi_h_wsL_strength : GoodIn lw_tbl [.codeWith yL_strength cL_strength 5 (some .int) [(0, 10, 13, 20), (0, 10, 17, 15), (0, 10, 21, 13)]] := goodIn_r _ [779] (by decide +kernel) (by decide +kernel)
set_option maxRecDepth 20000 in
theorem gi_wsL_strength_r3 : GoodIn lw_tbl wsL_strength_r3 := goodIn_r _ [437, 438, 60, 439, 430, 431, 398, 399, 400, 179, 256, 257, 432, 433, 434, 435, 436, 416, 417, 418, 184] (by decide +kernel) (by decide +kernel)
set_option maxRecDepth 20000 in
theorem gi_wsL_strength_r2 : GoodIn lw_tbl wsL_strength_r2 := goodIn_r _ [455, 58, 365, 366, 367, 52, 368, 174, 369, 370, 371, 51, 372, 154, 158, 294, 295, 296, 297, 57, 426, 427, 428, 429] (by decide +kernel) (by decide +kernel)
set_option maxRecDepth 20000 in
theorem gi_wsL_strength_r1 : GoodIn lw_tbl wsL_strength_r1 := goodIn_r _ [549, 537, 536, 780, 781, 782, 48, 783, 231, 684, 686, 6, 687, 186, 504, 506, 5, 507, 508, 59, 227, 452, 453, 454] (by decide +kernel) (by decide +kernel)
theorem gi_wsL_strength : GoodIn lw_tbl wsL_strength := goodIn_app (a := [.codeWith yL_strength cL_strength 5 (some .int) [(0, 10, 13, 20), (0, 10, 17, 15), (0, 10, 21, 13)]]) gi_h_wsL_strength (goodIn_app (goodIn_app (goodIn_app (goodIn_app (goodIn_app (goodIn_app (goodIn_app gi_wsL_strength_r1 (goodIn_app gi_wsL_strength_r2 gi_wsL_strength_r3)) gi_wsX40) gi_wsX30) gi_wsX20) gi_wsL_law_x2) gi_wsL_law_x1) gi_wsL_law_x0)
set_option maxRecDepth 20000 in
theorem gi_c_gL_law_L_strength : GoodIn lw_tbl ([.methodLink RL 179 yL_strength, .static yL_strength, .initialized yL_strength.cls] : List Cond) := goodIn_r _ [777, 778, 47] (by decide +kernel) (by decide +kernel)
theorem gL_law_L_strength : GoodIn lw_tbl (va_wsS RL 179 yL_strength wsL_strength) := goodIn_app gi_c_gL_law_L_strength gi_wsL_strength
set_option maxRecDepth 20000 in
theorem gi_h_wsX5_strength : GoodIn lw_tbl [.code yX5_strength cX5_strength 3 (some .int)] := goodIn_r _ [1173] (by decide +kernel) (by decide +kernel)
set_option maxRecDepth 20000 in
theorem gi_wsX5_strength_r4 : GoodIn lw_tbl wsX5_strength_r4 := goodIn_r _ [27, 1109] (by decide +kernel) (by decide +kernel)
set_option maxRecDepth 20000 in
theorem gi_wsX5_strength_r3 : GoodIn lw_tbl wsX5_strength_r3 := goodIn_r _ [1037, 1038, 1039, 1040, 1041, 1043, 19, 1044, 838, 837, 1045, 1047, 20, 1048, 1049, 1050, 1051, 1174, 1176, 36, 1177, 840, 1106, 1108] (by decide +kernel) (by decide +kernel)
set_option maxRecDepth 20000 in
theorem gi_wsX5_strength_r2 : GoodIn lw_tbl wsX5_strength_r2 := goodIn_r _ [981, 982, 983, 984, 1023, 1025, 16, 1026, 848, 846, 843, 847, 1027, 1029, 17, 1030, 1031, 1033, 18, 1034, 845, 844, 1035, 1036] (by decide +kernel) (by decide +kernel)
set_option maxRecDepth 20000 in
theorem gi_wsX5_strength_r1 : GoodIn lw_tbl wsX5_strength_r1 := goodIn_r _ [834, 1142, 1144, 31, 53, 1145, 1007, 1009, 13, 1010, 835, 985, 986, 987, 949, 950, 951, 992, 994, 12, 995, 836, 979, 980] (by decide +kernel) (by decide +kernel)
theorem gi_wsX5_strength : GoodIn lw_tbl wsX5_strength := goodIn_app (a := [.code yX5_strength cX5_strength 3 (some .int)]) gi_h_wsX5_strength (goodIn_app (goodIn_app gi_wsX5_strength_r1 (goodIn_app gi_wsX5_strength_r2 (goodIn_app gi_wsX5_strength_r3 gi_wsX5_strength_r4))) gi_wsX50)
set_option maxRecDepth 20000 in
theorem gi_c_gL_law_X5_strength : GoodIn lw_tbl ([.methodLink RL 181 yX5_strength, .instanceMethod yX5_strength, .selects RX5 yX5_strength yX5_strength, .initialized RX5] : List Cond) := goodIn_r _ [1170, 1171, 1172, 53] (by decide +kernel) (by decide +kernel)
theorem gL_law_X5_strength : GoodIn lw_tbl (wsV RL 181 RX5 yX5_strength wsX5_strength) := goodIn_app gi_c_gL_law_X5_strength gi_wsX5_strength
set_option maxRecDepth 20000 in
theorem gi_h_wsL_meanStrength : GoodIn lw_tbl [.codeWith yL_meanStrength cL_meanStrength 4 (some .int) [(0, 8, 11, 20), (0, 8, 14, 15)]] := goodIn_r _ [786] (by decide +kernel) (by decide +kernel)
set_option maxRecDepth 20000 in
theorem gi_wsL_meanStrength_r3 : GoodIn lw_tbl wsL_meanStrength_r3 := goodIn_r _ [179, 256, 257, 432, 433, 434, 435, 436, 416, 417, 418, 184] (by decide +kernel) (by decide +kernel)
set_option maxRecDepth 20000 in
theorem gi_wsL_meanStrength_r2 : GoodIn lw_tbl wsL_meanStrength_r2 := goodIn_r _ [367, 52, 368, 174, 369, 370, 371, 51, 372, 154, 158, 426, 427, 428, 429, 437, 438, 60, 439, 430, 431, 398, 399, 400] (by decide +kernel) (by decide +kernel)
set_option maxRecDepth 20000 in
theorem gi_wsL_meanStrength_r1 : GoodIn lw_tbl wsL_meanStrength_r1 := goodIn_r _ [549, 537, 787, 788, 789, 48, 790, 186, 195, 231, 504, 506, 5, 507, 508, 59, 227, 452, 453, 454, 455, 58, 365, 366] (by decide +kernel) (by decide +kernel)
theorem gi_wsL_meanStrength : GoodIn lw_tbl wsL_meanStrength := goodIn_app (a := [.codeWith yL_meanStrength cL_meanStrength 4 (some .int) [(0, 8, 11, 20), (0, 8, 14, 15)]]) gi_h_wsL_meanStrength (goodIn_app (goodIn_app (goodIn_app (goodIn_app (goodIn_app (goodIn_app gi_wsL_meanStrength_r1 (goodIn_app gi_wsL_meanStrength_r2 gi_wsL_meanStrength_r3)) gi_wsX30) gi_wsX40) gi_wsX20) gi_wsL_law_x2) gi_wsL_law_x1)
set_option maxRecDepth 20000 in
theorem gi_c_gL_law_L_meanStrength : GoodIn lw_tbl ([.methodLink RL 182 yL_meanStrength, .static yL_meanStrength, .initialized yL_meanStrength.cls] : List Cond) := goodIn_r _ [784, 785, 47] (by decide +kernel) (by decide +kernel)
