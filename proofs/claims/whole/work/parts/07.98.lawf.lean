set_option maxRecDepth 20000 in
theorem gL_law_X8_step : GoodIn wsL_law (wsV RL 128 RX8 yX8_step wsX8_step) := goodIn_app (goodIn_of _ (by decide +kernel)) ggL_law_X8_step
set_option maxRecDepth 20000 in
theorem ggL_law_X7_unstep : GoodIn wsL_law wsX7_unstep := goodIn_r _ [801, 35, 802, 803, 804, 34, 805, 790, 1090, 1091, 1092, 1093, 1094, 1095, 1096, 1154, 1155, 1156, 1157, 1158] (by decide +kernel) (by decide +kernel)
set_option maxRecDepth 20000 in
theorem gL_law_X7_unstep : GoodIn wsL_law (wsV RL 129 RX7 yX7_unstep wsX7_unstep) := goodIn_app (goodIn_of _ (by decide +kernel)) ggL_law_X7_unstep
set_option maxRecDepth 20000 in
theorem ggL_law_X8_unstep : GoodIn wsL_law wsX8_unstep := goodIn_r _ [809, 797, 1097, 1098, 1099, 1100, 1101, 1102, 1103, 1104, 1105, 1106, 1107, 1108, 1109, 1110, 1111, 1112, 1113, 1114, 1115, 1116, 1117, 1118, 1119, 1120, 1121, 1122, 1123, 1124, 1125, 1126, 1127, 1128, 1129, 1130] (by decide +kernel) (by decide +kernel)
set_option maxRecDepth 20000 in
theorem gL_law_X8_unstep : GoodIn wsL_law (wsV RL 133 RX8 yX8_unstep wsX8_unstep) := goodIn_app (goodIn_of _ (by decide +kernel)) ggL_law_X8_unstep
set_option maxRecDepth 20000 in
theorem ggL_law_X7_scheme : GoodIn wsL_law wsX7_scheme := goodIn_r _ [813, 35, 23, 257, 258, 2, 259, 814, 815, 816, 34, 817, 151, 818, 790, 152, 153, 819, 467, 468, 26, 469, 375, 261, 121, 262, 820, 821, 822, 823, 150, 824, 825, 826, 827, 86, 82, 87, 88, 828, 81, 83, 84, 85, 829, 372, 373, 374, 76, 66, 376, 377, 378, 379, 70, 72, 380, 381, 382, 383, 384, 385, 134, 135, 136, 830, 491, 492, 493, 77, 78, 79, 73, 406, 466, 1090, 1091, 1092, 1093, 1094, 1095, 1096, 1154, 1155, 1156, 1157, 1158, 1135, 1136, 1137, 1138, 1139, 1140, 1141, 1142, 1143, 1144, 1145, 1131, 1132, 1133, 1134] (by decide +kernel) (by decide +kernel)
set_option maxRecDepth 20000 in
theorem gL_law_X7_scheme : GoodIn wsL_law (wsV RL 134 RX7 yX7_scheme wsX7_scheme) := goodIn_app (goodIn_of _ (by decide +kernel)) ggL_law_X7_scheme
set_option maxRecDepth 20000 in
theorem ggL_law_X8_scheme : GoodIn wsL_law wsX8_scheme := goodIn_r _ [834, 267, 268, 5, 269, 270, 271, 272, 273, 835, 836, 837, 838, 797, 194, 191, 203, 204, 482, 483, 484, 485, 274, 275, 276, 277, 216, 478, 479, 480, 481, 215, 249, 359, 360, 361, 362, 394, 395, 396, 397, 192, 241, 242, 243, 244, 190, 224, 225, 226, 227, 311, 312, 313, 314, 363, 364, 365, 366, 1097, 1098, 1099, 1100, 1101, 1102, 1103, 1104, 1105, 1106, 1107, 1108, 1109, 1110, 1111, 1112, 1113, 1114, 1115, 1116, 1117, 1118, 1119, 1120, 1121, 1122, 1123, 1124, 1125, 1126, 1127, 1128, 1129, 1130] (by decide +kernel) (by decide +kernel)
set_option maxRecDepth 20000 in
theorem gL_law_X8_scheme : GoodIn wsL_law (wsV RL 137 RX8 yX8_scheme wsX8_scheme) := goodIn_app (goodIn_of _ (by decide +kernel)) ggL_law_X8_scheme
set_option maxRecDepth 20000 in
theorem ggL_law_X7_order : GoodIn wsL_law wsX7_order := goodIn_r _ [842, 35, 843, 844, 845, 34, 846, 151, 818, 150, 826, 824, 847, 815, 816, 817, 790, 152, 153, 819, 467, 468, 26, 469, 375, 261, 121, 262, 820, 821, 822, 823, 825, 827, 86, 82, 87, 88, 828, 81, 83, 84, 85, 829, 372, 373, 374, 76, 66, 376, 377, 378, 379, 70, 72, 380, 381, 382, 383, 384, 385, 134, 135, 136, 830, 491, 492, 493, 77, 78, 79, 73, 406, 466, 848, 747, 748, 749, 1090, 1091, 1092, 1093, 1094, 1095, 1096, 1154, 1155, 1156, 1157, 1158, 1135, 1136, 1137, 1138, 1139, 1140, 1141, 1142, 1143, 1144, 1145, 1131, 1132, 1133, 1134] (by decide +kernel) (by decide +kernel)
set_option maxRecDepth 20000 in
theorem gL_law_X7_order : GoodIn wsL_law (wsV RL 138 RX7 yX7_order wsX7_order) := goodIn_app (goodIn_of _ (by decide +kernel)) ggL_law_X7_order
set_option maxRecDepth 20000 in
theorem ggL_law_X8_order : GoodIn wsL_law wsX8_order := goodIn_r _ [852, 216, 194, 192, 215, 835, 836, 837, 5, 838, 797, 191, 203, 204, 482, 483, 484, 485, 274, 275, 276, 277, 478, 479, 480, 481, 249, 359, 360, 361, 362, 394, 395, 396, 397, 241, 242, 243, 244, 190, 224, 225, 226, 227, 311, 312, 313, 314, 363, 364, 365, 366, 1097, 1098, 1099, 1100, 1101, 1102, 1103, 1104, 1105, 1106, 1107, 1108, 1109, 1110, 1111, 1112, 1113, 1114, 1115, 1116, 1117, 1118, 1119, 1120, 1121, 1122, 1123, 1124, 1125, 1126, 1127, 1128, 1129, 1130] (by decide +kernel) (by decide +kernel)
set_option maxRecDepth 20000 in
theorem gL_law_X8_order : GoodIn wsL_law (wsV RL 141 RX8 yX8_order wsX8_order) := goodIn_app (goodIn_of _ (by decide +kernel)) ggL_law_X8_order
set_option maxRecDepth 20000 in
theorem ggL_law_X7_relate : GoodIn wsL_law wsX7_relate := goodIn_r _ [856, 27, 23, 39, 857, 257, 258, 2, 259, 858, 859, 860, 26, 861, 66, 746, 747, 748, 749, 72, 742, 743, 744, 745, 750, 751, 752, 753, 78, 79, 70, 385, 134, 135, 136, 754, 755, 756, 757, 68, 451, 452, 82, 453, 292, 427, 86, 87, 88, 862, 863, 864, 38, 865, 866, 163, 158, 160, 22, 161, 162, 867, 868, 167, 165, 869, 870, 871, 872, 873, 874, 159, 168, 169, 170, 30, 171, 100, 875, 876, 877, 878, 166, 164, 879, 880, 353, 354, 881, 882, 883, 884, 885, 81, 83, 84, 85, 886, 887, 888, 889, 890, 891, 568, 121, 569, 570, 571, 572, 892, 433, 434, 1090, 1091, 1092, 1093, 1094, 1095, 1096, 1159, 1160, 1161, 1162, 1163, 1164, 1165, 1166, 1167, 1168, 1135, 1136, 1137, 1138, 1139, 1140, 1141, 1142, 1143, 1144, 1145, 1131, 1132, 1133, 1134, 1146, 1147, 1148, 1149, 1150, 1151, 1152, 1153] (by decide +kernel) (by decide +kernel)
set_option maxRecDepth 20000 in
theorem gL_law_X7_relate : GoodIn wsL_law (wsV RL 142 RX7 yX7_relate wsX7_relate) := goodIn_app (goodIn_of _ (by decide +kernel)) ggL_law_X7_relate
set_option maxRecDepth 20000 in
theorem ggL_law_X8_relate : GoodIn wsL_law wsX8_relate := goodIn_r _ [896, 216, 194, 192, 897, 205, 190, 206, 191, 267, 268, 5, 269, 270, 271, 272, 273, 762, 763, 764, 765, 199, 359, 360, 361, 362, 722, 723, 724, 725, 201, 249, 726, 727, 728, 729, 202, 200, 730, 731, 732, 733, 224, 225, 226, 227, 241, 242, 243, 244, 734, 735, 736, 737, 250, 251, 252, 1097, 1098, 1099, 1100, 1101, 1102, 1103, 1104, 1105, 1106, 1107, 1108, 1109, 1110, 1111, 1112, 1113, 1114, 1115, 1116, 1117, 1118, 1119, 1120, 1121, 1122, 1123, 1124, 1125, 1126, 1127, 1128, 1129, 1130] (by decide +kernel) (by decide +kernel)
set_option maxRecDepth 20000 in
theorem gL_law_X8_relate : GoodIn wsL_law (wsV RL 145 RX8 yX8_relate wsX8_relate) := goodIn_app (goodIn_of _ (by decide +kernel)) ggL_law_X8_relate
set_option maxRecDepth 20000 in
theorem ggL_law_X7_size : GoodIn wsL_law wsX7_size := goodIn_r _ [901, 20, 585, 31, 39, 902, 637, 169, 170, 30, 171, 100, 1090, 1091, 1092, 1093, 1094, 1095, 1096, 1131, 1132, 1133, 1134, 1159, 1160, 1161, 1162, 1163, 1164, 1165, 1166, 1167, 1168, 1146, 1147, 1148, 1149, 1150, 1151, 1152, 1153] (by decide +kernel) (by decide +kernel)
set_option maxRecDepth 20000 in
theorem gL_law_X7_size : GoodIn wsL_law (wsV RL 146 RX7 yX7_size wsX7_size) := goodIn_app (goodIn_of _ (by decide +kernel)) ggL_law_X7_size
set_option maxRecDepth 20000 in
theorem ggL_law_X8_size : GoodIn wsL_law wsX8_size := goodIn_r _ [906, 215, 907, 209, 207, 214, 190, 201, 897, 205, 206, 271, 272, 5, 273, 250, 251, 252, 249, 908, 909, 910, 911, 208, 311, 312, 313, 314, 642, 643, 644, 645, 240, 192, 195, 1097, 1098, 1099, 1100, 1101, 1102, 1103, 1104, 1105, 1106, 1107, 1108, 1109, 1110, 1111, 1112, 1113, 1114, 1115, 1116, 1117, 1118, 1119, 1120, 1121, 1122, 1123, 1124, 1125, 1126, 1127, 1128, 1129, 1130] (by decide +kernel) (by decide +kernel)
set_option maxRecDepth 20000 in
theorem gL_law_X8_size : GoodIn wsL_law (wsV RL 149 RX8 yX8_size wsX8_size) := goodIn_app (goodIn_of _ (by decide +kernel)) ggL_law_X8_size
set_option maxRecDepth 20000 in
theorem ggL_law_X7_feed : GoodIn wsL_law wsX7_feed := goodIn_r _ [915, 43, 916, 917, 918, 919, 42, 920, 921, 185, 922, 1090, 1091, 1092, 1093, 1094, 1095, 1096, 1169, 1170, 1171, 1172, 1173, 1174, 1175, 1176, 1177] (by decide +kernel) (by decide +kernel)
set_option maxRecDepth 20000 in
theorem gL_law_X7_feed : GoodIn wsL_law (wsV RL 152 RX7 yX7_feed wsX7_feed) := goodIn_app (goodIn_of _ (by decide +kernel)) ggL_law_X7_feed
set_option maxRecDepth 20000 in
theorem ggL_law_X8_feed : GoodIn wsL_law wsX8_feed := goodIn_r _ [926, 927, 928, 210, 929, 271, 272, 5, 273, 1097, 1098, 1099, 1100, 1101, 1102, 1103, 1104, 1105, 1106, 1107, 1108, 1109, 1110, 1111, 1112, 1113, 1114, 1115, 1116, 1117, 1118, 1119, 1120, 1121, 1122, 1123, 1124, 1125, 1126, 1127, 1128, 1129, 1130] (by decide +kernel) (by decide +kernel)
set_option maxRecDepth 20000 in
theorem gL_law_X8_feed : GoodIn wsL_law (wsV RL 156 RX8 yX8_feed wsX8_feed) := goodIn_app (goodIn_of _ (by decide +kernel)) ggL_law_X8_feed
