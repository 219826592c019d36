-- the words of the methods that the law calls, by their places among the tables (laid by lawplaces.py)
theorem gL_law_L_meanStrength : GoodIn lw_tbl (va_wsS RL 182 yL_meanStrength wsL_meanStrength) := goodIn_app gi_c_gL_law_L_meanStrength gi_wsL_meanStrength
set_option maxRecDepth 20000 in
theorem gi_h_wsX5_meanStrength : GoodIn lw_tbl [.code yX5_meanStrength cX5_meanStrength 2 (some .double)] := goodIn_r _ [1181] (by decide +kernel) (by decide +kernel)
set_option maxRecDepth 20000 in
theorem gi_wsX5_meanStrength_r3 : GoodIn lw_tbl wsX5_meanStrength_r3 := goodIn_r _ [995, 1041, 1043, 19, 1044, 838, 837, 1045, 1047, 20, 1048, 1049, 1050, 1051, 1174, 1176, 36, 1177, 840, 1106, 1108, 27, 1109] (by decide +kernel) (by decide +kernel)
set_option maxRecDepth 20000 in
theorem gi_wsX5_meanStrength_r2 : GoodIn lw_tbl wsX5_meanStrength_r2 := goodIn_r _ [17, 1030, 836, 1031, 1033, 18, 1034, 845, 844, 1035, 1036, 1037, 982, 983, 984, 979, 980, 981, 1038, 1039, 1040, 992, 994, 12] (by decide +kernel) (by decide +kernel)
set_option maxRecDepth 20000 in
theorem gi_wsX5_meanStrength_r1 : GoodIn lw_tbl wsX5_meanStrength_r1 := goodIn_r _ [834, 839, 848, 1007, 1009, 13, 53, 1010, 835, 985, 986, 987, 949, 950, 951, 1023, 1025, 16, 1026, 846, 843, 847, 1027, 1029] (by decide +kernel) (by decide +kernel)
theorem gi_wsX5_meanStrength : GoodIn lw_tbl wsX5_meanStrength := goodIn_app (a := [.code yX5_meanStrength cX5_meanStrength 2 (some .double)]) gi_h_wsX5_meanStrength (goodIn_app (goodIn_app gi_wsX5_meanStrength_r1 (goodIn_app gi_wsX5_meanStrength_r2 gi_wsX5_meanStrength_r3)) gi_wsX50)
set_option maxRecDepth 20000 in
theorem gi_c_gL_law_X5_meanStrength : GoodIn lw_tbl ([.methodLink RL 185 yX5_meanStrength, .instanceMethod yX5_meanStrength, .selects RX5 yX5_meanStrength yX5_meanStrength, .initialized RX5] : List Cond) := goodIn_r _ [1178, 1179, 1180, 53] (by decide +kernel) (by decide +kernel)
theorem gL_law_X5_meanStrength : GoodIn lw_tbl (wsV RL 185 RX5 yX5_meanStrength wsX5_meanStrength) := goodIn_app gi_c_gL_law_X5_meanStrength gi_wsX5_meanStrength
set_option maxRecDepth 20000 in
theorem gi_h_wsL_compensated : GoodIn lw_tbl [.codeWith yL_compensated cL_compensated 5 (some .int) [(0, 10, 13, 20), (0, 10, 17, 13), (0, 10, 21, 15)]] := goodIn_r _ [793] (by decide +kernel) (by decide +kernel)
set_option maxRecDepth 20000 in
theorem gi_wsL_compensated_r3 : GoodIn lw_tbl wsL_compensated_r3 := goodIn_r _ [437, 438, 439, 430, 431, 398, 399, 400, 179, 256, 257, 432, 433, 434, 435, 436, 416, 417, 418, 184] (by decide +kernel) (by decide +kernel)
set_option maxRecDepth 20000 in
theorem gi_wsL_compensated_r2 : GoodIn lw_tbl wsL_compensated_r2 := goodIn_r _ [297, 57, 452, 453, 454, 455, 58, 365, 366, 367, 52, 368, 174, 369, 370, 371, 51, 372, 154, 158, 426, 427, 428, 429] (by decide +kernel) (by decide +kernel)
set_option maxRecDepth 20000 in
theorem gi_wsL_compensated_r1 : GoodIn lw_tbl wsL_compensated_r1 := goodIn_r _ [549, 536, 537, 794, 795, 796, 48, 797, 186, 231, 485, 486, 60, 487, 504, 506, 5, 507, 508, 59, 227, 294, 295, 296] (by decide +kernel) (by decide +kernel)
theorem gi_wsL_compensated : GoodIn lw_tbl wsL_compensated := goodIn_app (a := [.codeWith yL_compensated cL_compensated 5 (some .int) [(0, 10, 13, 20), (0, 10, 17, 13), (0, 10, 21, 15)]]) gi_h_wsL_compensated (goodIn_app (goodIn_app (goodIn_app (goodIn_app (goodIn_app (goodIn_app (goodIn_app gi_wsL_compensated_r1 (goodIn_app gi_wsL_compensated_r2 gi_wsL_compensated_r3)) gi_wsX30) gi_wsX40) gi_wsX20) gi_wsL_law_x2) gi_wsL_law_x0) gi_wsL_law_x1)
set_option maxRecDepth 20000 in
theorem gi_c_gL_law_L_compensated : GoodIn lw_tbl ([.methodLink RL 186 yL_compensated, .static yL_compensated, .initialized yL_compensated.cls] : List Cond) := goodIn_r _ [791, 792, 47] (by decide +kernel) (by decide +kernel)
theorem gL_law_L_compensated : GoodIn lw_tbl (va_wsS RL 186 yL_compensated wsL_compensated) := goodIn_app gi_c_gL_law_L_compensated gi_wsL_compensated
set_option maxRecDepth 20000 in
theorem gi_h_wsX5_compensated : GoodIn lw_tbl [.code yX5_compensated cX5_compensated 7 (some .int)] := goodIn_r _ [1185] (by decide +kernel) (by decide +kernel)
set_option maxRecDepth 20000 in
theorem gi_wsX5_compensated_r3 : GoodIn lw_tbl wsX5_compensated_r3 := goodIn_r _ [1041, 1043, 19, 1044, 838, 837, 1045, 1047, 20, 1048, 1049, 1050, 1051, 1174, 1176, 36, 1177, 840, 1106, 1108, 27, 1109] (by decide +kernel) (by decide +kernel)
set_option maxRecDepth 20000 in
theorem gi_wsX5_compensated_r2 : GoodIn lw_tbl wsX5_compensated_r2 := goodIn_r _ [1030, 836, 1031, 1033, 18, 1034, 845, 844, 1035, 1036, 1037, 982, 983, 984, 979, 980, 981, 1038, 1039, 1040, 992, 994, 12, 995] (by decide +kernel) (by decide +kernel)
set_option maxRecDepth 20000 in
theorem gi_wsX5_compensated_r1 : GoodIn lw_tbl wsX5_compensated_r1 := goodIn_r _ [834, 848, 949, 950, 53, 951, 1060, 1062, 22, 1063, 835, 985, 986, 987, 1023, 1025, 16, 1026, 846, 843, 847, 1027, 1029, 17] (by decide +kernel) (by decide +kernel)
theorem gi_wsX5_compensated : GoodIn lw_tbl wsX5_compensated := goodIn_app (a := [.code yX5_compensated cX5_compensated 7 (some .int)]) gi_h_wsX5_compensated (goodIn_app (goodIn_app gi_wsX5_compensated_r1 (goodIn_app gi_wsX5_compensated_r2 gi_wsX5_compensated_r3)) gi_wsX50)
set_option maxRecDepth 20000 in
theorem gi_c_gL_law_X5_compensated : GoodIn lw_tbl ([.methodLink RL 188 yX5_compensated, .instanceMethod yX5_compensated, .selects RX5 yX5_compensated yX5_compensated, .initialized RX5] : List Cond) := goodIn_r _ [1182, 1183, 1184, 53] (by decide +kernel) (by decide +kernel)
theorem gL_law_X5_compensated : GoodIn lw_tbl (wsV RL 188 RX5 yX5_compensated wsX5_compensated) := goodIn_app gi_c_gL_law_X5_compensated gi_wsX5_compensated
set_option maxRecDepth 20000 in
theorem gi_h_wsL_period : GoodIn lw_tbl [.codeWith yL_period cL_period 5 (some .int) [(0, 10, 13, 13), (0, 10, 17, 15)]] := goodIn_r _ [800] (by decide +kernel) (by decide +kernel)
set_option maxRecDepth 20000 in
theorem gi_wsL_period_r3 : GoodIn lw_tbl wsL_period_r3 := goodIn_r _ [492, 493, 60, 494, 495, 496, 497, 498, 499, 386, 387, 388, 389, 370, 371, 372] (by decide +kernel) (by decide +kernel)
set_option maxRecDepth 20000 in
theorem gi_wsL_period_r2 : GoodIn lw_tbl wsL_period_r2 := goodIn_r _ [471, 473, 4, 474, 175, 475, 476, 477, 51, 478, 154, 488, 486, 60, 487, 158, 157, 480, 481, 483, 484, 485, 490, 491] (by decide +kernel) (by decide +kernel)
set_option maxRecDepth 20000 in
theorem gi_wsL_period_r1 : GoodIn lw_tbl wsL_period_r1 := goodIn_r _ [536, 537, 801, 449, 450, 48, 451, 230, 294, 295, 296, 297, 57, 444, 446, 3, 447, 227, 186, 452, 453, 454, 455, 58] (by decide +kernel) (by decide +kernel)
theorem gi_wsL_period : GoodIn lw_tbl wsL_period := goodIn_app (a := [.codeWith yL_period cL_period 5 (some .int) [(0, 10, 13, 13), (0, 10, 17, 15)]]) gi_h_wsL_period (goodIn_app (goodIn_app (goodIn_app (goodIn_app (goodIn_app (goodIn_app gi_wsL_period_r1 (goodIn_app gi_wsL_period_r2 gi_wsL_period_r3)) gi_wsX40) gi_wsX30) gi_wsX20) gi_wsL_law_x0) gi_wsL_law_x1)
set_option maxRecDepth 20000 in
theorem gi_c_gL_law_L_period : GoodIn lw_tbl ([.methodLink RL 189 yL_period, .static yL_period, .initialized yL_period.cls] : List Cond) := goodIn_r _ [798, 799, 47] (by decide +kernel) (by decide +kernel)
theorem gL_law_L_period : GoodIn lw_tbl (va_wsS RL 189 yL_period wsL_period) := goodIn_app gi_c_gL_law_L_period gi_wsL_period
set_option maxRecDepth 20000 in
theorem gi_h_wsX5_period : GoodIn lw_tbl [.code yX5_period cX5_period 3 (some .int)] := goodIn_r _ [1189] (by decide +kernel) (by decide +kernel)
set_option maxRecDepth 20000 in
theorem gi_wsX5_period_r2 : GoodIn lw_tbl wsX5_period_r2 := goodIn_r _ [18, 1034, 1035, 1036, 1037, 982, 983, 984, 979, 980, 981, 1038, 1039, 1040, 1198, 1200, 39, 1201, 1202, 1204, 40, 1205] (by decide +kernel) (by decide +kernel)
set_option maxRecDepth 20000 in
theorem gi_wsX5_period_r1 : GoodIn lw_tbl wsX5_period_r1 := goodIn_r _ [834, 949, 950, 53, 951, 1190, 1192, 37, 1193, 835, 1194, 1196, 38, 1197, 843, 844, 845, 1027, 1029, 17, 1030, 836, 1031, 1033] (by decide +kernel) (by decide +kernel)
theorem gi_wsX5_period : GoodIn lw_tbl wsX5_period := goodIn_app (a := [.code yX5_period cX5_period 3 (some .int)]) gi_h_wsX5_period (goodIn_app (goodIn_app gi_wsX5_period_r1 gi_wsX5_period_r2) gi_wsX50)
set_option maxRecDepth 20000 in
theorem gi_c_gL_law_X5_period : GoodIn lw_tbl ([.methodLink RL 191 yX5_period, .instanceMethod yX5_period, .selects RX5 yX5_period yX5_period, .initialized RX5] : List Cond) := goodIn_r _ [1186, 1187, 1188, 53] (by decide +kernel) (by decide +kernel)
theorem gL_law_X5_period : GoodIn lw_tbl (wsV RL 191 RX5 yX5_period wsX5_period) := goodIn_app gi_c_gL_law_X5_period gi_wsX5_period
set_option maxRecDepth 20000 in
theorem gi_h_wsL_beat : GoodIn lw_tbl [.codeWith yL_beat cL_beat 6 (some .int) [(0, 12, 15, 20), (0, 12, 19, 13), (0, 12, 23, 15)]] := goodIn_r _ [804] (by decide +kernel) (by decide +kernel)
set_option maxRecDepth 20000 in
theorem gi_wsL_beat_r3 : GoodIn lw_tbl wsL_beat_r3 := goodIn_r _ [477, 478, 488, 480, 481, 490, 491, 492, 493, 60, 494, 499, 386, 387, 388, 389, 370, 371, 372] (by decide +kernel) (by decide +kernel)
set_option maxRecDepth 20000 in
theorem gi_wsL_beat_r2 : GoodIn lw_tbl wsL_beat_r2 := goodIn_r _ [453, 454, 455, 58, 524, 525, 526, 51, 527, 154, 157, 158, 528, 529, 530, 531, 483, 484, 485, 486, 60, 487, 532, 476] (by decide +kernel) (by decide +kernel)
set_option maxRecDepth 20000 in
theorem gi_wsL_beat_r1 : GoodIn lw_tbl wsL_beat_r1 := goodIn_r _ [549, 536, 537, 805, 501, 502, 48, 503, 186, 230, 175, 504, 506, 5, 507, 508, 59, 227, 294, 295, 296, 297, 57, 452] (by decide +kernel) (by decide +kernel)
theorem gi_wsL_beat : GoodIn lw_tbl wsL_beat := goodIn_app (a := [.codeWith yL_beat cL_beat 6 (some .int) [(0, 12, 15, 20), (0, 12, 19, 13), (0, 12, 23, 15)]]) gi_h_wsL_beat (goodIn_app (goodIn_app (goodIn_app (goodIn_app (goodIn_app (goodIn_app (goodIn_app gi_wsL_beat_r1 (goodIn_app gi_wsL_beat_r2 gi_wsL_beat_r3)) gi_wsX30) gi_wsX40) gi_wsX20) gi_wsL_law_x2) gi_wsL_law_x0) gi_wsL_law_x1)
set_option maxRecDepth 20000 in
theorem gi_c_gL_law_L_beat : GoodIn lw_tbl ([.methodLink RL 192 yL_beat, .static yL_beat, .initialized yL_beat.cls] : List Cond) := goodIn_r _ [802, 803, 47] (by decide +kernel) (by decide +kernel)
theorem gL_law_L_beat : GoodIn lw_tbl (va_wsS RL 192 yL_beat wsL_beat) := goodIn_app gi_c_gL_law_L_beat gi_wsL_beat
set_option maxRecDepth 20000 in
theorem gi_h_wsX5_beat : GoodIn lw_tbl [.code yX5_beat cX5_beat 5 (some .int)] := goodIn_r _ [1209] (by decide +kernel) (by decide +kernel)
set_option maxRecDepth 20000 in
theorem gi_wsX5_beat_r2 : GoodIn lw_tbl wsX5_beat_r2 := goodIn_r _ [1034, 1035, 1036, 1037, 982, 983, 984, 979, 980, 981, 1038, 1039, 1040, 1202, 1204, 40, 1205] (by decide +kernel) (by decide +kernel)
set_option maxRecDepth 20000 in
theorem gi_wsX5_beat_r1 : GoodIn lw_tbl wsX5_beat_r1 := goodIn_r _ [835, 834, 985, 986, 53, 987, 949, 950, 951, 1210, 1212, 41, 1213, 843, 844, 845, 1027, 1029, 17, 1030, 836, 1031, 1033, 18] (by decide +kernel) (by decide +kernel)
theorem gi_wsX5_beat : GoodIn lw_tbl wsX5_beat := goodIn_app (a := [.code yX5_beat cX5_beat 5 (some .int)]) gi_h_wsX5_beat (goodIn_app (goodIn_app gi_wsX5_beat_r1 gi_wsX5_beat_r2) gi_wsX50)
set_option maxRecDepth 20000 in
theorem gi_c_gL_law_X5_beat : GoodIn lw_tbl ([.methodLink RL 194 yX5_beat, .instanceMethod yX5_beat, .selects RX5 yX5_beat yX5_beat, .initialized RX5] : List Cond) := goodIn_r _ [1206, 1207, 1208, 53] (by decide +kernel) (by decide +kernel)
theorem gL_law_X5_beat : GoodIn lw_tbl (wsV RL 194 RX5 yX5_beat wsX5_beat) := goodIn_app gi_c_gL_law_X5_beat gi_wsX5_beat
set_option maxRecDepth 20000 in
theorem gi_h_wsL_mixture : GoodIn lw_tbl [.codeWith yL_mixture cL_mixture 4 (some .int) [(0, 9, 12, 13), (0, 9, 15, 15)]] := goodIn_r _ [808] (by decide +kernel) (by decide +kernel)
set_option maxRecDepth 20000 in
theorem gi_wsL_mixture_r4 : GoodIn lw_tbl wsL_mixture_r4 := goodIn_r _ [194, 589, 590, 591, 592, 582, 583, 584, 585, 586, 431, 398, 399, 400, 179, 256, 257] (by decide +kernel) (by decide +kernel)
set_option maxRecDepth 20000 in
theorem gi_wsL_mixture_r3 : GoodIn lw_tbl wsL_mixture_r3 := goodIn_r _ [490, 491, 492, 493, 60, 494, 495, 496, 497, 498, 813, 370, 371, 372, 738, 740, 7, 741, 742, 743, 744, 52, 745, 174] (by decide +kernel) (by decide +kernel)
set_option maxRecDepth 20000 in
theorem gi_wsL_mixture_r2 : GoodIn lw_tbl wsL_mixture_r2 := goodIn_r _ [455, 58, 471, 473, 4, 474, 175, 475, 476, 477, 51, 478, 154, 488, 486, 60, 487, 158, 157, 480, 481, 483, 484, 485] (by decide +kernel) (by decide +kernel)
set_option maxRecDepth 20000 in
theorem gi_wsL_mixture_r1 : GoodIn lw_tbl wsL_mixture_r1 := goodIn_r _ [536, 537, 809, 810, 811, 48, 812, 230, 159, 156, 294, 295, 296, 297, 57, 444, 446, 3, 447, 227, 186, 452, 453, 454] (by decide +kernel) (by decide +kernel)
theorem gi_wsL_mixture : GoodIn lw_tbl wsL_mixture := goodIn_app (a := [.codeWith yL_mixture cL_mixture 4 (some .int) [(0, 9, 12, 13), (0, 9, 15, 15)]]) gi_h_wsL_mixture (goodIn_app (goodIn_app (goodIn_app (goodIn_app (goodIn_app (goodIn_app gi_wsL_mixture_r1 (goodIn_app gi_wsL_mixture_r2 (goodIn_app gi_wsL_mixture_r3 gi_wsL_mixture_r4))) gi_wsX40) gi_wsX20) gi_wsX30) gi_wsL_law_x0) gi_wsL_law_x1)
set_option maxRecDepth 20000 in
theorem gi_c_gL_law_L_mixture : GoodIn lw_tbl ([.methodLink RL 195 yL_mixture, .static yL_mixture, .initialized yL_mixture.cls] : List Cond) := goodIn_r _ [806, 807, 47] (by decide +kernel) (by decide +kernel)
theorem gL_law_L_mixture : GoodIn lw_tbl (va_wsS RL 195 yL_mixture wsL_mixture) := goodIn_app gi_c_gL_law_L_mixture gi_wsL_mixture
set_option maxRecDepth 20000 in
theorem gi_h_wsX5_mixture : GoodIn lw_tbl [.code yX5_mixture cX5_mixture 2 (some .int)] := goodIn_r _ [1217] (by decide +kernel) (by decide +kernel)
set_option maxRecDepth 20000 in
theorem gi_wsX5_mixture_r4 : GoodIn lw_tbl wsX5_mixture_r4 := goodIn_r _ [1048, 1049, 1050, 1051, 1126, 1128, 29, 1129, 1130, 1132, 30, 1133, 839, 1106, 1108, 27, 1109] (by decide +kernel) (by decide +kernel)
set_option maxRecDepth 20000 in
theorem gi_wsX5_mixture_r3 : GoodIn lw_tbl wsX5_mixture_r3 := goodIn_r _ [28, 1125, 848, 856, 847, 857, 1023, 1025, 16, 1026, 846, 992, 994, 12, 995, 1041, 1043, 19, 1044, 838, 837, 1045, 1047, 20] (by decide +kernel) (by decide +kernel)
set_option maxRecDepth 20000 in
theorem gi_wsX5_mixture_r2 : GoodIn lw_tbl wsX5_mixture_r2 := goodIn_r _ [18, 1034, 1035, 1036, 1037, 982, 983, 984, 979, 980, 981, 1038, 1039, 1040, 1198, 1200, 39, 1201, 1218, 1220, 42, 1221, 1122, 1124] (by decide +kernel) (by decide +kernel)
set_option maxRecDepth 20000 in
theorem gi_wsX5_mixture_r1 : GoodIn lw_tbl wsX5_mixture_r1 := goodIn_r _ [834, 843, 845, 949, 950, 53, 951, 1190, 1192, 37, 1193, 835, 1194, 1196, 38, 1197, 844, 1027, 1029, 17, 1030, 836, 1031, 1033] (by decide +kernel) (by decide +kernel)
theorem gi_wsX5_mixture : GoodIn lw_tbl wsX5_mixture := goodIn_app (a := [.code yX5_mixture cX5_mixture 2 (some .int)]) gi_h_wsX5_mixture (goodIn_app (goodIn_app gi_wsX5_mixture_r1 (goodIn_app gi_wsX5_mixture_r2 (goodIn_app gi_wsX5_mixture_r3 gi_wsX5_mixture_r4))) gi_wsX50)
set_option maxRecDepth 20000 in
theorem gi_c_gL_law_X5_mixture : GoodIn lw_tbl ([.methodLink RL 197 yX5_mixture, .instanceMethod yX5_mixture, .selects RX5 yX5_mixture yX5_mixture, .initialized RX5] : List Cond) := goodIn_r _ [1214, 1215, 1216, 53] (by decide +kernel) (by decide +kernel)
theorem gL_law_X5_mixture : GoodIn lw_tbl (wsV RL 197 RX5 yX5_mixture wsX5_mixture) := goodIn_app gi_c_gL_law_X5_mixture gi_wsX5_mixture
set_option maxRecDepth 20000 in
theorem gi_h_wsL_nearest : GoodIn lw_tbl [.codeWith yL_nearest cL_nearest 7 (some .int) [(0, 14, 17, 13)]] := goodIn_r _ [816] (by decide +kernel) (by decide +kernel)
set_option maxRecDepth 20000 in
theorem gi_l392 : GoodIn lw_tbl ([.classLink RL 13 "java/lang/IllegalArgumentException", .methodLink RL 94 yX4_nearest, .instanceMethod yX4_nearest, .selects RX4 yX4_nearest yX4_nearest, .initialized RX4, .code yX4_nearest cX4_nearest 9 (some .int), .methodLink RX4 172 Lib.Math.abs.name, .static Lib.Math.abs.name, .initialized "java/lang/Math", .code Lib.Math.abs.name Lib.Math.abs.code 1 (some .int), .methodLink RX4 37 yX4_needArgument, .static yX4_needArgument, .code yX4_needArgument cX4_needArgument 1 none, .classLink RX4 227 "java/lang/IllegalArgumentException", .initialized "java/lang/IllegalArgumentException", .methodLink RX4 197 yX4_isNearer, .static yX4_isNearer, .code yX4_isNearer cX4_isNearer 16 (some .boolean)] : List Cond) := goodIn_r _ [536, 817, 818, 819, 48, 820, 485, 486, 60, 487, 294, 295, 296, 297, 57, 821, 822, 823] (by decide +kernel) (by decide +kernel)
theorem gi_wsL_nearest : GoodIn lw_tbl wsL_nearest := goodIn_app (a := [.codeWith yL_nearest cL_nearest 7 (some .int) [(0, 14, 17, 13)]]) gi_h_wsL_nearest (goodIn_app gi_l392 gi_wsL_law_x0)
set_option maxRecDepth 20000 in
theorem gi_c_gL_law_L_nearest : GoodIn lw_tbl ([.methodLink RL 198 yL_nearest, .static yL_nearest, .initialized yL_nearest.cls] : List Cond) := goodIn_r _ [814, 815, 47] (by decide +kernel) (by decide +kernel)
theorem gL_law_L_nearest : GoodIn lw_tbl (va_wsS RL 198 yL_nearest wsL_nearest) := goodIn_app gi_c_gL_law_L_nearest gi_wsL_nearest
set_option maxRecDepth 20000 in
theorem gi_h_wsX5_nearest : GoodIn lw_tbl [.code yX5_nearest cX5_nearest 10 (some .int)] := goodIn_r _ [1225] (by decide +kernel) (by decide +kernel)
set_option maxRecDepth 20000 in
theorem gi_l397 : GoodIn lw_tbl ([.fieldLink RX5 59 "HalftoneScreensModel" "thrown" "I", .methodLink RX5 71 yX5_within, .static yX5_within, .initialized RX5, .code yX5_within cX5_within 3 (some .boolean), .methodLink RX5 268 yX5_isNearer, .static yX5_isNearer, .code yX5_isNearer cX5_isNearer 14 (some .boolean), .methodLink RX5 63 yX5_abs, .static yX5_abs, .code yX5_abs cX5_abs 1 (some .int)] : List Cond) := goodIn_r _ [834, 949, 950, 53, 951, 1226, 1227, 1228, 982, 983, 984] (by decide +kernel) (by decide +kernel)
theorem gi_wsX5_nearest : GoodIn lw_tbl wsX5_nearest := goodIn_app (a := [.code yX5_nearest cX5_nearest 10 (some .int)]) gi_h_wsX5_nearest (goodIn_app gi_l397 gi_wsX50)
set_option maxRecDepth 20000 in
theorem gi_c_gL_law_X5_nearest : GoodIn lw_tbl ([.methodLink RL 201 yX5_nearest, .instanceMethod yX5_nearest, .selects RX5 yX5_nearest yX5_nearest, .initialized RX5] : List Cond) := goodIn_r _ [1222, 1223, 1224, 53] (by decide +kernel) (by decide +kernel)
theorem gL_law_X5_nearest : GoodIn lw_tbl (wsV RL 201 RX5 yX5_nearest wsX5_nearest) := goodIn_app gi_c_gL_law_X5_nearest gi_wsX5_nearest
set_option maxRecDepth 20000 in
theorem gi_h_wsL_count : GoodIn lw_tbl [.codeWith yL_count cL_count 4 (some .int) [(0, 9, 12, 13)]] := goodIn_r _ [826] (by decide +kernel) (by decide +kernel)
set_option maxRecDepth 20000 in
theorem gi_wsL_count_r2 : GoodIn lw_tbl wsL_count_r2 := goodIn_r _ [370, 371, 51, 372, 154, 158] (by decide +kernel) (by decide +kernel)
set_option maxRecDepth 20000 in
theorem gi_wsL_count_r1 : GoodIn lw_tbl wsL_count_r1 := goodIn_r _ [536, 827, 291, 292, 48, 293, 231, 228, 83, 227, 186, 195, 294, 295, 296, 297, 57, 365, 366, 367, 52, 368, 174, 369] (by decide +kernel) (by decide +kernel)
theorem gi_wsL_count : GoodIn lw_tbl wsL_count := goodIn_app (a := [.codeWith yL_count cL_count 4 (some .int) [(0, 9, 12, 13)]]) gi_h_wsL_count (goodIn_app (goodIn_app (goodIn_app (goodIn_app (goodIn_app (goodIn_app gi_wsL_count_r1 gi_wsL_count_r2) gi_wsX40) gi_wsX10) gi_wsX30) gi_wsX20) gi_wsL_law_x0)
set_option maxRecDepth 20000 in
theorem gi_c_gL_law_L_count : GoodIn lw_tbl ([.methodLink RL 202 yL_count, .static yL_count, .initialized yL_count.cls] : List Cond) := goodIn_r _ [824, 825, 47] (by decide +kernel) (by decide +kernel)
theorem gL_law_L_count : GoodIn lw_tbl (va_wsS RL 202 yL_count wsL_count) := goodIn_app gi_c_gL_law_L_count gi_wsL_count
set_option maxRecDepth 20000 in
theorem gi_h_wsX5_count : GoodIn lw_tbl [.code yX5_count cX5_count 2 (some .int)] := goodIn_r _ [1232] (by decide +kernel) (by decide +kernel)
set_option maxRecDepth 20000 in
theorem gi_wsX5_count_r2 : GoodIn lw_tbl wsX5_count_r2 := goodIn_r _ [1011, 1013, 14, 1014] (by decide +kernel) (by decide +kernel)
set_option maxRecDepth 20000 in
theorem gi_wsX5_count_r1 : GoodIn lw_tbl wsX5_count_r1 := goodIn_r _ [834, 949, 950, 53, 951, 1233, 1235, 43, 1236, 835, 839, 840, 841, 992, 994, 12, 995, 836, 979, 980, 981, 982, 983, 984] (by decide +kernel) (by decide +kernel)
theorem gi_wsX5_count : GoodIn lw_tbl wsX5_count := goodIn_app (a := [.code yX5_count cX5_count 2 (some .int)]) gi_h_wsX5_count (goodIn_app (goodIn_app gi_wsX5_count_r1 gi_wsX5_count_r2) gi_wsX50)
set_option maxRecDepth 20000 in
theorem gi_c_gL_law_X5_count : GoodIn lw_tbl ([.methodLink RL 204 yX5_count, .instanceMethod yX5_count, .selects RX5 yX5_count yX5_count, .initialized RX5] : List Cond) := goodIn_r _ [1229, 1230, 1231, 53] (by decide +kernel) (by decide +kernel)
theorem gL_law_X5_count : GoodIn lw_tbl (wsV RL 204 RX5 yX5_count wsX5_count) := goodIn_app gi_c_gL_law_X5_count gi_wsX5_count
set_option maxRecDepth 20000 in
theorem gi_h_wsX4_digest : GoodIn lw_tbl [.code yX4_digest cX4_digest 7 (some .long)] := goodIn_r _ [288] (by decide +kernel) (by decide +kernel)
set_option maxRecDepth 20000 in
theorem gi_wsX4_digest_r8 : GoodIn lw_tbl wsX4_digest_r8 := goodIn_r _ [500, 501, 502, 503, 504, 506, 5, 507, 508, 59, 524, 525, 526, 527, 528, 529, 530, 531, 532] (by decide +kernel) (by decide +kernel)
set_option maxRecDepth 20000 in
theorem gi_wsX4_digest_r7 : GoodIn lw_tbl wsX4_digest_r7 := goodIn_r _ [175, 475, 476, 477, 478, 488, 486, 487, 480, 481, 483, 484, 485, 490, 491, 492, 493, 60, 494, 495, 496, 497, 498, 499] (by decide +kernel) (by decide +kernel)
set_option maxRecDepth 20000 in
theorem gi_wsX4_digest_r6 : GoodIn lw_tbl wsX4_digest_r6 := goodIn_r _ [435, 436, 440, 442, 2, 443, 444, 446, 3, 447, 448, 449, 450, 451, 230, 452, 453, 454, 455, 58, 471, 473, 4, 474] (by decide +kernel) (by decide +kernel)
set_option maxRecDepth 20000 in
theorem gi_wsX4_digest_r5 : GoodIn lw_tbl wsX4_digest_r5 := goodIn_r _ [410, 411, 412, 413, 414, 125, 126, 415, 416, 417, 418, 184, 426, 427, 428, 429, 437, 438, 439, 430, 431, 432, 433, 434] (by decide +kernel) (by decide +kernel)
set_option maxRecDepth 20000 in
theorem gi_wsX4_digest_r4 : GoodIn lw_tbl wsX4_digest_r4 := goodIn_r _ [124, 423, 424, 60, 425, 271, 272, 396, 397, 398, 399, 400, 179, 403, 404, 405, 406, 119, 118, 116, 117, 407, 408, 409] (by decide +kernel) (by decide +kernel)
set_option maxRecDepth 20000 in
theorem gi_wsX4_digest_r3 : GoodIn lw_tbl wsX4_digest_r3 := goodIn_r _ [187, 188, 189, 190, 191, 192, 194, 385, 386, 387, 388, 157, 389, 390, 256, 257, 391, 392, 393, 50, 394, 120, 122, 115] (by decide +kernel) (by decide +kernel)
set_option maxRecDepth 20000 in
theorem gi_wsX4_digest_r2 : GoodIn lw_tbl wsX4_digest_r2 := goodIn_r _ [369, 370, 371, 51, 372, 154, 158, 373, 374, 375, 376, 377, 379, 1, 380, 177, 180, 229, 121, 123, 381, 382, 383, 384] (by decide +kernel) (by decide +kernel)
set_option maxRecDepth 20000 in
theorem gi_wsX4_digest_r1 : GoodIn lw_tbl wsX4_digest_r1 := goodIn_r _ [289, 227, 228, 83, 79, 290, 291, 292, 48, 293, 231, 186, 195, 294, 295, 296, 297, 57, 365, 366, 367, 52, 368, 174] (by decide +kernel) (by decide +kernel)
theorem gi_wsX4_digest : GoodIn lw_tbl wsX4_digest := goodIn_app (a := [.code yX4_digest cX4_digest 7 (some .long)]) gi_h_wsX4_digest (goodIn_app (goodIn_app (goodIn_app (goodIn_app (goodIn_app (goodIn_app (goodIn_app (goodIn_app (goodIn_app gi_wsX4_digest_r1 (goodIn_app gi_wsX4_digest_r2 (goodIn_app gi_wsX4_digest_r3 (goodIn_app gi_wsX4_digest_r4 (goodIn_app gi_wsX4_digest_r5 (goodIn_app gi_wsX4_digest_r6 (goodIn_app gi_wsX4_digest_r7 gi_wsX4_digest_r8))))))) gi_wsX40) gi_wsX10) gi_wsX30) gi_wsX20) gi_wsX00) gi_wsL_law_x0) gi_wsL_law_x1) gi_wsL_law_x2)
set_option maxRecDepth 20000 in
theorem gi_c_gL_law_X4_digest : GoodIn lw_tbl ([.methodLink RL 205 yX4_digest, .instanceMethod yX4_digest, .selects RX4 yX4_digest yX4_digest, .initialized RX4] : List Cond) := goodIn_r _ [285, 286, 287, 48] (by decide +kernel) (by decide +kernel)
theorem gL_law_X4_digest : GoodIn lw_tbl (wsV RL 205 RX4 yX4_digest wsX4_digest) := goodIn_app gi_c_gL_law_X4_digest gi_wsX4_digest
set_option maxRecDepth 20000 in
theorem gi_h_wsX5_digest : GoodIn lw_tbl [.code yX5_digest cX5_digest 3 (some .long)] := goodIn_r _ [1240] (by decide +kernel) (by decide +kernel)
set_option maxRecDepth 20000 in
theorem gi_wsX5_digest_r6 : GoodIn lw_tbl wsX5_digest_r6 := goodIn_r _ [1198, 1200, 39, 1201, 1202, 1204, 40, 1205, 1210, 1212, 41, 1213] (by decide +kernel) (by decide +kernel)
set_option maxRecDepth 20000 in
theorem gi_wsX5_digest_r5 : GoodIn lw_tbl wsX5_digest_r5 := goodIn_r _ [34, 1157, 1106, 1108, 27, 1109, 1158, 1160, 35, 1161, 863, 864, 1174, 1176, 36, 1177, 1251, 1253, 46, 1254, 1194, 1196, 38, 1197] (by decide +kernel) (by decide +kernel)
set_option maxRecDepth 20000 in
theorem gi_wsX5_digest_r4 : GoodIn lw_tbl wsX5_digest_r4 := goodIn_r _ [1044, 1045, 1047, 20, 1048, 1049, 1050, 1051, 1146, 1148, 32, 1149, 858, 1150, 1152, 33, 1153, 862, 865, 859, 861, 860, 1154, 1156] (by decide +kernel) (by decide +kernel)
set_option maxRecDepth 20000 in
theorem gi_wsX5_digest_r3 : GoodIn lw_tbl wsX5_digest_r3 := goodIn_r _ [845, 837, 838, 1027, 1029, 17, 1030, 1031, 1033, 18, 1034, 1035, 1036, 1037, 1038, 1039, 1040, 1023, 1025, 16, 1026, 1041, 1043, 19] (by decide +kernel) (by decide +kernel)
set_option maxRecDepth 20000 in
theorem gi_wsX5_digest_r2 : GoodIn lw_tbl wsX5_digest_r2 := goodIn_r _ [1011, 1013, 14, 1014, 1242, 1244, 44, 1245, 1246, 1247, 1249, 45, 1250, 848, 846, 847, 866, 867, 1095, 1097, 26, 1098, 843, 844] (by decide +kernel) (by decide +kernel)
set_option maxRecDepth 20000 in
theorem gi_wsX5_digest_r1 : GoodIn lw_tbl wsX5_digest_r1 := goodIn_r _ [834, 1241, 868, 835, 841, 842, 1233, 1235, 43, 53, 1236, 839, 840, 992, 994, 12, 995, 836, 979, 980, 981, 982, 983, 984] (by decide +kernel) (by decide +kernel)
theorem gi_wsX5_digest : GoodIn lw_tbl wsX5_digest := goodIn_app (a := [.code yX5_digest cX5_digest 3 (some .long)]) gi_h_wsX5_digest (goodIn_app (goodIn_app gi_wsX5_digest_r1 (goodIn_app gi_wsX5_digest_r2 (goodIn_app gi_wsX5_digest_r3 (goodIn_app gi_wsX5_digest_r4 (goodIn_app gi_wsX5_digest_r5 gi_wsX5_digest_r6))))) gi_wsX50)
set_option maxRecDepth 20000 in
theorem gi_c_gL_law_X5_digest : GoodIn lw_tbl ([.methodLink RL 209 yX5_digest, .instanceMethod yX5_digest, .selects RX5 yX5_digest yX5_digest, .initialized RX5] : List Cond) := goodIn_r _ [1237, 1238, 1239, 53] (by decide +kernel) (by decide +kernel)
theorem gL_law_X5_digest : GoodIn lw_tbl (wsV RL 209 RX5 yX5_digest wsX5_digest) := goodIn_app gi_c_gL_law_X5_digest gi_wsX5_digest
