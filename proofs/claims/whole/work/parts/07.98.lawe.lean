set_option maxRecDepth 20000 in
theorem ggL_law_X8_side : GoodIn wsL_law wsX8_side := goodIn_r _ [655, 196, 197, 625, 626, 627, 5, 628, 240, 271, 272, 273, 1097, 1098, 1099, 1100, 1101, 1102, 1103, 1104, 1105, 1106, 1107, 1108, 1109, 1110, 1111, 1112, 1113, 1114, 1115, 1116, 1117, 1118, 1119, 1120, 1121, 1122, 1123, 1124, 1125, 1126, 1127, 1128, 1129, 1130] (by decide +kernel) (by decide +kernel)
set_option maxRecDepth 20000 in
theorem gL_law_X8_side : GoodIn wsL_law (wsV RL 104 RX8 yX8_side wsX8_side) := goodIn_app (goodIn_of _ (by decide +kernel)) ggL_law_X8_side
set_option maxRecDepth 20000 in
theorem ggL_law_X7_basis : GoodIn wsL_law wsX7_basis := goodIn_r _ [659, 31, 27, 23, 660, 257, 258, 2, 259, 611, 612, 613, 614, 615, 173, 174, 30, 175, 100, 94, 98, 661, 662, 663, 664, 97, 102, 103, 101, 95, 665, 261, 121, 262, 666, 667, 403, 404, 26, 405, 76, 66, 406, 375, 376, 377, 378, 379, 70, 72, 380, 381, 382, 383, 384, 385, 134, 135, 136, 668, 1090, 1091, 1092, 1093, 1094, 1095, 1096, 1135, 1136, 1137, 1138, 1139, 1140, 1141, 1142, 1143, 1144, 1145, 1146, 1147, 1148, 1149, 1150, 1151, 1152, 1153, 1131, 1132, 1133, 1134] (by decide +kernel) (by decide +kernel)
set_option maxRecDepth 20000 in
theorem gL_law_X7_basis : GoodIn wsL_law (wsV RL 105 RX7 yX7_basis wsX7_basis) := goodIn_app (goodIn_of _ (by decide +kernel)) ggL_law_X7_basis
set_option maxRecDepth 20000 in
theorem ggL_law_X8_basis : GoodIn wsL_law wsX8_basis := goodIn_r _ [672, 192, 195, 190, 194, 191, 200, 267, 268, 5, 269, 270, 271, 272, 273, 625, 626, 627, 628, 240, 274, 275, 276, 277, 216, 1097, 1098, 1099, 1100, 1101, 1102, 1103, 1104, 1105, 1106, 1107, 1108, 1109, 1110, 1111, 1112, 1113, 1114, 1115, 1116, 1117, 1118, 1119, 1120, 1121, 1122, 1123, 1124, 1125, 1126, 1127, 1128, 1129, 1130] (by decide +kernel) (by decide +kernel)
set_option maxRecDepth 20000 in
theorem gL_law_X8_basis : GoodIn wsL_law (wsV RL 108 RX8 yX8_basis wsX8_basis) := goodIn_app (goodIn_of _ (by decide +kernel)) ggL_law_X8_basis
set_option maxRecDepth 20000 in
theorem ggL_law_X7_text : GoodIn wsL_law wsX7_text := goodIn_r _ [676, 31, 611, 612, 613, 2, 614, 615, 173, 174, 30, 175, 100, 94, 98, 677, 678, 679, 680, 102, 103, 681, 682, 683, 684, 101, 142, 143, 144, 19, 145, 53, 55, 1090, 1091, 1092, 1093, 1094, 1095, 1096, 1146, 1147, 1148, 1149, 1150, 1151, 1152, 1153, 1131, 1132, 1133, 1134] (by decide +kernel) (by decide +kernel)
set_option maxRecDepth 20000 in
theorem gL_law_X7_text : GoodIn wsL_law (wsV RL 109 RX7 yX7_text wsX7_text) := goodIn_app (goodIn_of _ (by decide +kernel)) ggL_law_X7_text
set_option maxRecDepth 20000 in
theorem ggL_law_X8_text : GoodIn wsL_law wsX8_text := goodIn_r _ [688, 198, 196, 197, 195, 191, 625, 626, 627, 5, 628, 240, 271, 272, 273, 1097, 1098, 1099, 1100, 1101, 1102, 1103, 1104, 1105, 1106, 1107, 1108, 1109, 1110, 1111, 1112, 1113, 1114, 1115, 1116, 1117, 1118, 1119, 1120, 1121, 1122, 1123, 1124, 1125, 1126, 1127, 1128, 1129, 1130] (by decide +kernel) (by decide +kernel)
set_option maxRecDepth 20000 in
theorem gL_law_X8_text : GoodIn wsL_law (wsV RL 112 RX8 yX8_text wsX8_text) := goodIn_app (goodIn_of _ (by decide +kernel)) ggL_law_X8_text
set_option maxRecDepth 20000 in
theorem ggL_law_X7_share : GoodIn wsL_law wsX7_share := goodIn_r _ [692, 20, 31, 27, 23, 660, 282, 283, 284, 19, 285, 53, 52, 54, 55, 257, 258, 2, 259, 693, 694, 695, 30, 696, 94, 142, 143, 144, 145, 110, 111, 112, 113, 109, 99, 114, 697, 698, 699, 700, 97, 95, 701, 467, 468, 26, 469, 375, 261, 121, 262, 115, 116, 117, 118, 702, 703, 704, 705, 141, 706, 134, 135, 136, 707, 568, 569, 570, 571, 572, 708, 420, 421, 422, 76, 66, 70, 72, 423, 424, 425, 426, 427, 86, 82, 87, 88, 428, 429, 430, 431, 68, 432, 433, 434, 292, 381, 382, 383, 384, 385, 709, 710, 711, 712, 713, 81, 83, 84, 85, 714, 715, 716, 717, 598, 599, 600, 601, 352, 353, 354, 1090, 1091, 1092, 1093, 1094, 1095, 1096, 1135, 1136, 1137, 1138, 1139, 1140, 1141, 1142, 1143, 1144, 1145, 1131, 1132, 1133, 1134, 1146, 1147, 1148, 1149, 1150, 1151, 1152, 1153] (by decide +kernel) (by decide +kernel)
set_option maxRecDepth 20000 in
theorem gL_law_X7_share : GoodIn wsL_law (wsV RL 113 RX7 yX7_share wsX7_share) := goodIn_app (goodIn_of _ (by decide +kernel)) ggL_law_X7_share
set_option maxRecDepth 20000 in
theorem ggL_law_X8_share : GoodIn wsL_law wsX8_share := goodIn_r _ [721, 194, 299, 300, 301, 5, 302, 215, 214, 191, 271, 272, 273, 267, 268, 269, 270, 359, 360, 361, 362, 216, 722, 723, 724, 725, 192, 190, 201, 249, 726, 727, 728, 729, 199, 202, 200, 730, 731, 732, 733, 224, 225, 226, 227, 241, 242, 243, 244, 734, 735, 736, 737, 250, 251, 252, 1097, 1098, 1099, 1100, 1101, 1102, 1103, 1104, 1105, 1106, 1107, 1108, 1109, 1110, 1111, 1112, 1113, 1114, 1115, 1116, 1117, 1118, 1119, 1120, 1121, 1122, 1123, 1124, 1125, 1126, 1127, 1128, 1129, 1130] (by decide +kernel) (by decide +kernel)
set_option maxRecDepth 20000 in
theorem gL_law_X8_share : GoodIn wsL_law (wsV RL 116 RX8 yX8_share wsX8_share) := goodIn_app (goodIn_of _ (by decide +kernel)) ggL_law_X8_share
set_option maxRecDepth 20000 in
theorem ggL_law_X7_lie : GoodIn wsL_law wsX7_lie := goodIn_r _ [741, 27, 23, 257, 258, 2, 259, 742, 743, 744, 26, 745, 66, 746, 747, 748, 749, 72, 750, 751, 752, 753, 78, 79, 70, 385, 134, 135, 136, 754, 755, 756, 757, 68, 451, 452, 82, 453, 292, 427, 86, 87, 88, 1090, 1091, 1092, 1093, 1094, 1095, 1096, 1135, 1136, 1137, 1138, 1139, 1140, 1141, 1142, 1143, 1144, 1145] (by decide +kernel) (by decide +kernel)
set_option maxRecDepth 20000 in
theorem gL_law_X7_lie : GoodIn wsL_law (wsV RL 117 RX7 yX7_lie wsX7_lie) := goodIn_app (goodIn_of _ (by decide +kernel)) ggL_law_X7_lie
set_option maxRecDepth 20000 in
theorem ggL_law_X8_lie : GoodIn wsL_law wsX8_lie := goodIn_r _ [761, 267, 268, 5, 269, 270, 271, 272, 273, 762, 763, 764, 765, 216, 194, 199, 359, 360, 361, 362, 722, 723, 724, 725, 192, 191, 190, 201, 249, 726, 727, 728, 729, 202, 200, 730, 731, 732, 733, 224, 225, 226, 227, 241, 242, 243, 244, 734, 735, 736, 737, 250, 251, 252, 1097, 1098, 1099, 1100, 1101, 1102, 1103, 1104, 1105, 1106, 1107, 1108, 1109, 1110, 1111, 1112, 1113, 1114, 1115, 1116, 1117, 1118, 1119, 1120, 1121, 1122, 1123, 1124, 1125, 1126, 1127, 1128, 1129, 1130] (by decide +kernel) (by decide +kernel)
set_option maxRecDepth 20000 in
theorem gL_law_X8_lie : GoodIn wsL_law (wsV RL 120 RX8 yX8_lie wsX8_lie) := goodIn_app (goodIn_of _ (by decide +kernel)) ggL_law_X8_lie
set_option maxRecDepth 20000 in
theorem ggL_law_X7_table : GoodIn wsL_law wsX7_table := goodIn_r _ [769, 328, 31, 611, 612, 613, 2, 614, 615, 173, 174, 30, 175, 100, 94, 98, 770, 771, 772, 773, 101, 95, 97, 142, 143, 144, 19, 145, 53, 55, 666, 662, 663, 664, 102, 103, 665, 261, 121, 262, 667, 403, 404, 26, 405, 76, 66, 406, 375, 376, 377, 378, 379, 70, 72, 380, 381, 382, 383, 384, 385, 134, 135, 136, 774, 694, 695, 696, 110, 111, 112, 113, 109, 99, 114, 697, 698, 699, 700, 701, 467, 468, 469, 115, 116, 117, 118, 702, 703, 704, 705, 141, 706, 707, 568, 569, 570, 571, 572, 708, 420, 421, 422, 423, 424, 425, 426, 427, 86, 82, 87, 88, 428, 429, 430, 431, 68, 432, 433, 434, 292, 709, 710, 711, 712, 713, 81, 83, 84, 85, 714, 715, 716, 717, 775, 599, 600, 601, 352, 353, 354, 332, 333, 334, 335, 1090, 1091, 1092, 1093, 1094, 1095, 1096, 1146, 1147, 1148, 1149, 1150, 1151, 1152, 1153, 1131, 1132, 1133, 1134, 1135, 1136, 1137, 1138, 1139, 1140, 1141, 1142, 1143, 1144, 1145] (by decide +kernel) (by decide +kernel)
set_option maxRecDepth 20000 in
theorem gL_law_X7_table : GoodIn wsL_law (wsV RL 121 RX7 yX7_table wsX7_table) := goodIn_app (goodIn_of _ (by decide +kernel)) ggL_law_X7_table
set_option maxRecDepth 20000 in
theorem ggL_law_X8_table : GoodIn wsL_law wsX8_table := goodIn_r _ [779, 341, 192, 195, 215, 190, 194, 191, 200, 780, 249, 625, 626, 627, 5, 628, 240, 271, 272, 273, 274, 275, 276, 277, 216, 245, 246, 247, 248, 250, 251, 252, 722, 723, 724, 725, 201, 726, 727, 728, 729, 199, 202, 730, 731, 732, 733, 224, 225, 226, 227, 241, 242, 243, 244, 734, 735, 736, 737, 1097, 1098, 1099, 1100, 1101, 1102, 1103, 1104, 1105, 1106, 1107, 1108, 1109, 1110, 1111, 1112, 1113, 1114, 1115, 1116, 1117, 1118, 1119, 1120, 1121, 1122, 1123, 1124, 1125, 1126, 1127, 1128, 1129, 1130] (by decide +kernel) (by decide +kernel)
set_option maxRecDepth 20000 in
theorem gL_law_X8_table : GoodIn wsL_law (wsV RL 124 RX8 yX8_table wsX8_table) := goodIn_app (goodIn_of _ (by decide +kernel)) ggL_law_X8_table
set_option maxRecDepth 20000 in
theorem ggL_law_X7_step : GoodIn wsL_law wsX7_step := goodIn_r _ [784, 35, 785, 529, 530, 531, 2, 532, 20, 533, 286, 287, 288, 289, 290, 82, 291, 292, 293, 45, 46, 47, 294, 81, 83, 84, 85, 86, 87, 88, 786, 787, 788, 34, 789, 790, 152, 153, 1090, 1091, 1092, 1093, 1094, 1095, 1096, 1154, 1155, 1156, 1157, 1158, 1131, 1132, 1133, 1134] (by decide +kernel) (by decide +kernel)
set_option maxRecDepth 20000 in
theorem gL_law_X7_step : GoodIn wsL_law (wsV RL 125 RX7 yX7_step wsX7_step) := goodIn_app (goodIn_of _ (by decide +kernel)) ggL_law_X7_step
set_option maxRecDepth 20000 in
theorem ggL_law_X8_step : GoodIn wsL_law wsX8_step := goodIn_r _ [794, 795, 796, 797, 203, 204, 546, 547, 548, 5, 549, 214, 271, 272, 273, 308, 309, 310, 249, 250, 251, 252, 311, 312, 313, 314, 1097, 1098, 1099, 1100, 1101, 1102, 1103, 1104, 1105, 1106, 1107, 1108, 1109, 1110, 1111, 1112, 1113, 1114, 1115, 1116, 1117, 1118, 1119, 1120, 1121, 1122, 1123, 1124, 1125, 1126, 1127, 1128, 1129, 1130] (by decide +kernel) (by decide +kernel)
