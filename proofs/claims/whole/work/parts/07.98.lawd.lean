set_option maxRecDepth 20000 in
theorem gL_law_X7_derive : GoodIn wsL_law (wsV RL 77 RX7 yX7_derive wsX7_derive) := goodIn_app (goodIn_of _ (by decide +kernel)) ggL_law_X7_derive
set_option maxRecDepth 20000 in
theorem ggL_law_X8_derive : GoodIn wsL_law wsX8_derive := goodIn_r _ [545, 216, 194, 192, 390, 391, 392, 5, 393, 267, 268, 269, 270, 271, 272, 273, 546, 547, 548, 549, 214, 274, 275, 276, 277, 232, 233, 234, 235, 191, 190, 550, 551, 552, 553, 215, 249, 241, 242, 243, 244, 224, 225, 226, 227, 359, 360, 361, 362, 1097, 1098, 1099, 1100, 1101, 1102, 1103, 1104, 1105, 1106, 1107, 1108, 1109, 1110, 1111, 1112, 1113, 1114, 1115, 1116, 1117, 1118, 1119, 1120, 1121, 1122, 1123, 1124, 1125, 1126, 1127, 1128, 1129, 1130] (by decide +kernel) (by decide +kernel)
set_option maxRecDepth 20000 in
theorem gL_law_X8_derive : GoodIn wsL_law (wsV RL 80 RX8 yX8_derive wsX8_derive) := goodIn_app (goodIn_of _ (by decide +kernel)) ggL_law_X8_derive
set_option maxRecDepth 20000 in
theorem ggL_law_X7_replace : GoodIn wsL_law wsX7_replace := goodIn_r _ [557, 23, 27, 257, 258, 2, 259, 529, 530, 531, 532, 20, 533, 558, 559, 560, 26, 561, 75, 562, 563, 564, 565, 66, 72, 566, 130, 131, 132, 68, 567, 568, 121, 569, 570, 571, 572, 376, 377, 378, 379, 70, 380, 573, 574, 575, 576, 432, 433, 82, 434, 292, 381, 382, 383, 384, 385, 134, 135, 136, 1090, 1091, 1092, 1093, 1094, 1095, 1096, 1131, 1132, 1133, 1134, 1135, 1136, 1137, 1138, 1139, 1140, 1141, 1142, 1143, 1144, 1145] (by decide +kernel) (by decide +kernel)
set_option maxRecDepth 20000 in
theorem gL_law_X7_replace : GoodIn wsL_law (wsV RL 81 RX7 yX7_replace wsX7_replace) := goodIn_app (goodIn_of _ (by decide +kernel)) ggL_law_X7_replace
set_option maxRecDepth 20000 in
theorem ggL_law_X8_replace : GoodIn wsL_law wsX8_replace := goodIn_r _ [580, 194, 216, 192, 191, 390, 391, 392, 5, 393, 267, 268, 269, 270, 271, 272, 273, 546, 547, 548, 549, 214, 274, 275, 276, 277, 482, 483, 484, 485, 232, 233, 234, 235, 190, 394, 395, 396, 397, 249, 241, 242, 243, 244, 224, 225, 226, 227, 359, 360, 361, 362, 363, 364, 365, 366, 1097, 1098, 1099, 1100, 1101, 1102, 1103, 1104, 1105, 1106, 1107, 1108, 1109, 1110, 1111, 1112, 1113, 1114, 1115, 1116, 1117, 1118, 1119, 1120, 1121, 1122, 1123, 1124, 1125, 1126, 1127, 1128, 1129, 1130] (by decide +kernel) (by decide +kernel)
set_option maxRecDepth 20000 in
theorem gL_law_X8_replace : GoodIn wsL_law (wsV RL 84 RX8 yX8_replace wsX8_replace) := goodIn_app (goodIn_of _ (by decide +kernel)) ggL_law_X8_replace
set_option maxRecDepth 20000 in
theorem ggL_law_X7_part : GoodIn wsL_law wsX7_part := goodIn_r _ [584, 20, 585, 27, 23, 257, 258, 2, 259, 586, 587, 588, 26, 589, 72, 1090, 1091, 1092, 1093, 1094, 1095, 1096, 1131, 1132, 1133, 1134, 1135, 1136, 1137, 1138, 1139, 1140, 1141, 1142, 1143, 1144, 1145] (by decide +kernel) (by decide +kernel)
set_option maxRecDepth 20000 in
theorem gL_law_X7_part : GoodIn wsL_law (wsV RL 85 RX7 yX7_part wsX7_part) := goodIn_app (goodIn_of _ (by decide +kernel)) ggL_law_X7_part
set_option maxRecDepth 20000 in
theorem ggL_law_X8_part : GoodIn wsL_law wsX8_part := goodIn_r _ [593, 215, 216, 194, 192, 267, 268, 5, 269, 270, 271, 272, 273, 1097, 1098, 1099, 1100, 1101, 1102, 1103, 1104, 1105, 1106, 1107, 1108, 1109, 1110, 1111, 1112, 1113, 1114, 1115, 1116, 1117, 1118, 1119, 1120, 1121, 1122, 1123, 1124, 1125, 1126, 1127, 1128, 1129, 1130] (by decide +kernel) (by decide +kernel)
set_option maxRecDepth 20000 in
theorem gL_law_X8_part : GoodIn wsL_law (wsV RL 88 RX8 yX8_part wsX8_part) := goodIn_app (goodIn_of _ (by decide +kernel)) ggL_law_X8_part
set_option maxRecDepth 20000 in
theorem ggL_law_X7_pair : GoodIn wsL_law wsX7_pair := goodIn_r _ [597, 27, 23, 257, 258, 2, 259, 598, 599, 600, 26, 601, 352, 353, 82, 354, 88, 1090, 1091, 1092, 1093, 1094, 1095, 1096] (by decide +kernel) (by decide +kernel)
set_option maxRecDepth 20000 in
theorem gL_law_X7_pair : GoodIn wsL_law (wsV RL 89 RX7 yX7_pair wsX7_pair) := goodIn_app (goodIn_of _ (by decide +kernel)) ggL_law_X7_pair
set_option maxRecDepth 20000 in
theorem ggL_law_X8_pair : GoodIn wsL_law wsX8_pair := goodIn_r _ [605, 216, 194, 249, 267, 268, 5, 269, 270, 271, 272, 273, 1097, 1098, 1099, 1100, 1101, 1102, 1103, 1104, 1105, 1106, 1107, 1108, 1109, 1110, 1111, 1112, 1113, 1114, 1115, 1116, 1117, 1118, 1119, 1120, 1121, 1122, 1123, 1124, 1125, 1126, 1127, 1128, 1129, 1130] (by decide +kernel) (by decide +kernel)
set_option maxRecDepth 20000 in
theorem gL_law_X8_pair : GoodIn wsL_law (wsV RL 92 RX8 yX8_pair wsX8_pair) := goodIn_app (goodIn_of _ (by decide +kernel)) ggL_law_X8_pair
set_option maxRecDepth 20000 in
theorem ggL_law_X7_lyndon : GoodIn wsL_law wsX7_lyndon := goodIn_r _ [609, 20, 31, 610, 611, 612, 613, 2, 614, 615, 173, 174, 30, 175, 100, 94, 98, 616, 617, 618, 19, 619, 55, 52, 620, 143, 144, 145, 53, 1090, 1091, 1092, 1093, 1094, 1095, 1096, 1146, 1147, 1148, 1149, 1150, 1151, 1152, 1153, 1131, 1132, 1133, 1134] (by decide +kernel) (by decide +kernel)
set_option maxRecDepth 20000 in
theorem gL_law_X7_lyndon : GoodIn wsL_law (wsV RL 93 RX7 yX7_lyndon wsX7_lyndon) := goodIn_app (goodIn_of _ (by decide +kernel)) ggL_law_X7_lyndon
set_option maxRecDepth 20000 in
theorem ggL_law_X8_lyndon : GoodIn wsL_law wsX8_lyndon := goodIn_r _ [624, 195, 625, 626, 627, 5, 628, 240, 271, 272, 273, 629, 630, 631, 632, 192, 232, 233, 234, 235, 191, 190, 214, 1097, 1098, 1099, 1100, 1101, 1102, 1103, 1104, 1105, 1106, 1107, 1108, 1109, 1110, 1111, 1112, 1113, 1114, 1115, 1116, 1117, 1118, 1119, 1120, 1121, 1122, 1123, 1124, 1125, 1126, 1127, 1128, 1129, 1130] (by decide +kernel) (by decide +kernel)
set_option maxRecDepth 20000 in
theorem gL_law_X8_lyndon : GoodIn wsL_law (wsV RL 96 RX8 yX8_lyndon wsX8_lyndon) := goodIn_app (goodIn_of _ (by decide +kernel)) ggL_law_X8_lyndon
set_option maxRecDepth 20000 in
theorem ggL_law_X7_lyndons : GoodIn wsL_law wsX7_lyndons := goodIn_r _ [636, 20, 585, 31, 637, 169, 170, 30, 171, 100, 1090, 1091, 1092, 1093, 1094, 1095, 1096, 1131, 1132, 1133, 1134, 1146, 1147, 1148, 1149, 1150, 1151, 1152, 1153] (by decide +kernel) (by decide +kernel)
set_option maxRecDepth 20000 in
theorem gL_law_X7_lyndons : GoodIn wsL_law (wsV RL 97 RX7 yX7_lyndons wsX7_lyndons) := goodIn_app (goodIn_of _ (by decide +kernel)) ggL_law_X7_lyndons
set_option maxRecDepth 20000 in
theorem ggL_law_X8_lyndons : GoodIn wsL_law wsX8_lyndons := goodIn_r _ [641, 215, 271, 272, 5, 273, 642, 643, 644, 645, 240, 192, 195, 1097, 1098, 1099, 1100, 1101, 1102, 1103, 1104, 1105, 1106, 1107, 1108, 1109, 1110, 1111, 1112, 1113, 1114, 1115, 1116, 1117, 1118, 1119, 1120, 1121, 1122, 1123, 1124, 1125, 1126, 1127, 1128, 1129, 1130] (by decide +kernel) (by decide +kernel)
set_option maxRecDepth 20000 in
theorem gL_law_X8_lyndons : GoodIn wsL_law (wsV RL 100 RX8 yX8_lyndons wsX8_lyndons) := goodIn_app (goodIn_of _ (by decide +kernel)) ggL_law_X8_lyndons
set_option maxRecDepth 20000 in
theorem ggL_law_X7_side : GoodIn wsL_law wsX7_side := goodIn_r _ [649, 31, 650, 651, 611, 612, 613, 2, 614, 615, 173, 174, 30, 175, 100, 94, 98, 1090, 1091, 1092, 1093, 1094, 1095, 1096, 1146, 1147, 1148, 1149, 1150, 1151, 1152, 1153, 1131, 1132, 1133, 1134] (by decide +kernel) (by decide +kernel)
set_option maxRecDepth 20000 in
theorem gL_law_X7_side : GoodIn wsL_law (wsV RL 101 RX7 yX7_side wsX7_side) := goodIn_app (goodIn_of _ (by decide +kernel)) ggL_law_X7_side
