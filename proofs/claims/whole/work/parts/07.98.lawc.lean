set_option maxRecDepth 20000 in
theorem ggL_law_X7_shuffle : GoodIn wsL_law wsX7_shuffle := goodIn_r _ [418, 27, 23, 257, 258, 2, 259, 419, 420, 421, 26, 422, 76, 66, 70, 72, 375, 261, 121, 262, 423, 424, 425, 426, 427, 86, 82, 87, 88, 428, 429, 430, 431, 68, 432, 433, 434, 292, 381, 382, 383, 384, 385, 134, 135, 136, 1090, 1091, 1092, 1093, 1094, 1095, 1096, 1135, 1136, 1137, 1138, 1139, 1140, 1141, 1142, 1143, 1144, 1145] (by decide +kernel) (by decide +kernel)
set_option maxRecDepth 20000 in
theorem gL_law_X7_shuffle : GoodIn wsL_law (wsV RL 53 RX7 yX7_shuffle wsX7_shuffle) := goodIn_app (goodIn_of _ (by decide +kernel)) ggL_law_X7_shuffle
set_option maxRecDepth 20000 in
theorem ggL_law_X8_shuffle : GoodIn wsL_law wsX8_shuffle := goodIn_r _ [438, 216, 192, 214, 194, 191, 249, 390, 391, 392, 5, 393, 267, 268, 269, 270, 271, 272, 273, 232, 233, 234, 235, 190, 359, 360, 361, 362, 1097, 1098, 1099, 1100, 1101, 1102, 1103, 1104, 1105, 1106, 1107, 1108, 1109, 1110, 1111, 1112, 1113, 1114, 1115, 1116, 1117, 1118, 1119, 1120, 1121, 1122, 1123, 1124, 1125, 1126, 1127, 1128, 1129, 1130] (by decide +kernel) (by decide +kernel)
set_option maxRecDepth 20000 in
theorem gL_law_X8_shuffle : GoodIn wsL_law (wsV RL 56 RX8 yX8_shuffle wsX8_shuffle) := goodIn_app (goodIn_of _ (by decide +kernel)) ggL_law_X8_shuffle
set_option maxRecDepth 20000 in
theorem ggL_law_X7_turn : GoodIn wsL_law wsX7_turn := goodIn_r _ [442, 27, 23, 257, 258, 2, 259, 443, 444, 445, 26, 446, 66, 70, 72, 64, 76, 447, 448, 449, 19, 450, 52, 451, 452, 82, 453, 292, 381, 382, 383, 384, 385, 134, 135, 136, 1090, 1091, 1092, 1093, 1094, 1095, 1096, 1135, 1136, 1137, 1138, 1139, 1140, 1141, 1142, 1143, 1144, 1145, 1131, 1132, 1133, 1134] (by decide +kernel) (by decide +kernel)
set_option maxRecDepth 20000 in
theorem gL_law_X7_turn : GoodIn wsL_law (wsV RL 57 RX7 yX7_turn wsX7_turn) := goodIn_app (goodIn_of _ (by decide +kernel)) ggL_law_X7_turn
set_option maxRecDepth 20000 in
theorem ggL_law_X8_turn : GoodIn wsL_law wsX8_turn := goodIn_r _ [457, 216, 192, 214, 194, 191, 267, 268, 5, 269, 270, 271, 272, 273, 232, 233, 234, 235, 190, 250, 251, 252, 249, 359, 360, 361, 362, 1097, 1098, 1099, 1100, 1101, 1102, 1103, 1104, 1105, 1106, 1107, 1108, 1109, 1110, 1111, 1112, 1113, 1114, 1115, 1116, 1117, 1118, 1119, 1120, 1121, 1122, 1123, 1124, 1125, 1126, 1127, 1128, 1129, 1130] (by decide +kernel) (by decide +kernel)
set_option maxRecDepth 20000 in
theorem gL_law_X8_turn : GoodIn wsL_law (wsV RL 60 RX8 yX8_turn wsX8_turn) := goodIn_app (goodIn_of _ (by decide +kernel)) ggL_law_X8_turn
set_option maxRecDepth 20000 in
theorem ggL_law_X7_exp : GoodIn wsL_law wsX7_exp := goodIn_r _ [461, 23, 27, 257, 258, 2, 259, 462, 463, 464, 26, 465, 78, 79, 66, 73, 466, 467, 468, 469, 375, 261, 121, 262, 376, 377, 378, 379, 70, 72, 380, 381, 382, 383, 384, 385, 134, 135, 136, 1090, 1091, 1092, 1093, 1094, 1095, 1096, 1135, 1136, 1137, 1138, 1139, 1140, 1141, 1142, 1143, 1144, 1145] (by decide +kernel) (by decide +kernel)
set_option maxRecDepth 20000 in
theorem gL_law_X7_exp : GoodIn wsL_law (wsV RL 61 RX7 yX7_exp wsX7_exp) := goodIn_app (goodIn_of _ (by decide +kernel)) ggL_law_X7_exp
set_option maxRecDepth 20000 in
theorem ggL_law_X8_exp : GoodIn wsL_law wsX8_exp := goodIn_r _ [473, 474, 475, 476, 5, 477, 194, 267, 268, 269, 270, 271, 272, 273, 478, 479, 480, 481, 215, 249, 359, 360, 361, 362, 216, 482, 483, 484, 485, 274, 275, 276, 277, 394, 395, 396, 397, 192, 241, 242, 243, 244, 191, 190, 224, 225, 226, 227, 311, 312, 313, 314, 363, 364, 365, 366, 1097, 1098, 1099, 1100, 1101, 1102, 1103, 1104, 1105, 1106, 1107, 1108, 1109, 1110, 1111, 1112, 1113, 1114, 1115, 1116, 1117, 1118, 1119, 1120, 1121, 1122, 1123, 1124, 1125, 1126, 1127, 1128, 1129, 1130] (by decide +kernel) (by decide +kernel)
set_option maxRecDepth 20000 in
theorem gL_law_X8_exp : GoodIn wsL_law (wsV RL 64 RX8 yX8_exp wsX8_exp) := goodIn_app (goodIn_of _ (by decide +kernel)) ggL_law_X8_exp
set_option maxRecDepth 20000 in
theorem ggL_law_X7_log : GoodIn wsL_law wsX7_log := goodIn_r _ [489, 23, 27, 257, 258, 2, 259, 490, 491, 492, 26, 493, 77, 78, 79, 73, 66, 406, 381, 382, 383, 384, 385, 134, 135, 136, 466, 467, 468, 469, 375, 261, 121, 262, 376, 377, 378, 379, 70, 72, 380, 1090, 1091, 1092, 1093, 1094, 1095, 1096, 1135, 1136, 1137, 1138, 1139, 1140, 1141, 1142, 1143, 1144, 1145] (by decide +kernel) (by decide +kernel)
set_option maxRecDepth 20000 in
theorem gL_law_X7_log : GoodIn wsL_law (wsV RL 65 RX7 yX7_log wsX7_log) := goodIn_app (goodIn_of _ (by decide +kernel)) ggL_law_X7_log
set_option maxRecDepth 20000 in
theorem ggL_law_X8_log : GoodIn wsL_law wsX8_log := goodIn_r _ [497, 474, 475, 476, 5, 477, 194, 267, 268, 269, 270, 271, 272, 273, 478, 479, 480, 481, 215, 249, 359, 360, 361, 362, 216, 482, 483, 484, 485, 274, 275, 276, 277, 394, 395, 396, 397, 192, 241, 242, 243, 244, 191, 190, 224, 225, 226, 227, 311, 312, 313, 314, 363, 364, 365, 366, 1097, 1098, 1099, 1100, 1101, 1102, 1103, 1104, 1105, 1106, 1107, 1108, 1109, 1110, 1111, 1112, 1113, 1114, 1115, 1116, 1117, 1118, 1119, 1120, 1121, 1122, 1123, 1124, 1125, 1126, 1127, 1128, 1129, 1130] (by decide +kernel) (by decide +kernel)
set_option maxRecDepth 20000 in
theorem gL_law_X8_log : GoodIn wsL_law (wsV RL 68 RX8 yX8_log wsX8_log) := goodIn_app (goodIn_of _ (by decide +kernel)) ggL_law_X8_log
set_option maxRecDepth 20000 in
theorem ggL_law_X7_inverse : GoodIn wsL_law wsX7_inverse := goodIn_r _ [501, 23, 27, 257, 258, 2, 259, 502, 503, 504, 26, 505, 77, 78, 79, 66, 406, 381, 382, 383, 384, 385, 134, 135, 136, 466, 467, 468, 469, 375, 261, 121, 262, 376, 377, 378, 379, 70, 72, 380, 1090, 1091, 1092, 1093, 1094, 1095, 1096, 1135, 1136, 1137, 1138, 1139, 1140, 1141, 1142, 1143, 1144, 1145] (by decide +kernel) (by decide +kernel)
set_option maxRecDepth 20000 in
theorem gL_law_X7_inverse : GoodIn wsL_law (wsV RL 69 RX7 yX7_inverse wsX7_inverse) := goodIn_app (goodIn_of _ (by decide +kernel)) ggL_law_X7_inverse
set_option maxRecDepth 20000 in
theorem ggL_law_X8_inverse : GoodIn wsL_law wsX8_inverse := goodIn_r _ [509, 474, 475, 476, 5, 477, 194, 267, 268, 269, 270, 271, 272, 273, 478, 479, 480, 481, 215, 249, 359, 360, 361, 362, 216, 482, 483, 484, 485, 274, 275, 276, 277, 394, 395, 396, 397, 192, 241, 242, 243, 244, 191, 190, 224, 225, 226, 227, 311, 312, 313, 314, 363, 364, 365, 366, 1097, 1098, 1099, 1100, 1101, 1102, 1103, 1104, 1105, 1106, 1107, 1108, 1109, 1110, 1111, 1112, 1113, 1114, 1115, 1116, 1117, 1118, 1119, 1120, 1121, 1122, 1123, 1124, 1125, 1126, 1127, 1128, 1129, 1130] (by decide +kernel) (by decide +kernel)
set_option maxRecDepth 20000 in
theorem gL_law_X8_inverse : GoodIn wsL_law (wsV RL 72 RX8 yX8_inverse wsX8_inverse) := goodIn_app (goodIn_of _ (by decide +kernel)) ggL_law_X8_inverse
set_option maxRecDepth 20000 in
theorem ggL_law_X7_group : GoodIn wsL_law wsX7_group := goodIn_r _ [513, 23, 27, 257, 258, 2, 259, 514, 515, 516, 26, 517, 75, 518, 463, 464, 465, 78, 79, 66, 73, 466, 467, 468, 469, 375, 261, 121, 262, 376, 377, 378, 379, 70, 72, 380, 381, 382, 383, 384, 385, 134, 135, 136, 519, 372, 373, 374, 76, 520, 491, 492, 493, 77, 406, 1090, 1091, 1092, 1093, 1094, 1095, 1096, 1135, 1136, 1137, 1138, 1139, 1140, 1141, 1142, 1143, 1144, 1145] (by decide +kernel) (by decide +kernel)
set_option maxRecDepth 20000 in
theorem gL_law_X7_group : GoodIn wsL_law (wsV RL 73 RX7 yX7_group wsX7_group) := goodIn_app (goodIn_of _ (by decide +kernel)) ggL_law_X7_group
set_option maxRecDepth 20000 in
theorem ggL_law_X8_group : GoodIn wsL_law wsX8_group := goodIn_r _ [524, 194, 390, 391, 392, 5, 393, 267, 268, 269, 270, 271, 272, 273, 478, 479, 480, 481, 215, 249, 359, 360, 361, 362, 216, 482, 483, 484, 485, 274, 275, 276, 277, 394, 395, 396, 397, 192, 241, 242, 243, 244, 191, 190, 224, 225, 226, 227, 311, 312, 313, 314, 363, 364, 365, 366, 1097, 1098, 1099, 1100, 1101, 1102, 1103, 1104, 1105, 1106, 1107, 1108, 1109, 1110, 1111, 1112, 1113, 1114, 1115, 1116, 1117, 1118, 1119, 1120, 1121, 1122, 1123, 1124, 1125, 1126, 1127, 1128, 1129, 1130] (by decide +kernel) (by decide +kernel)
set_option maxRecDepth 20000 in
theorem gL_law_X8_group : GoodIn wsL_law (wsV RL 76 RX8 yX8_group wsX8_group) := goodIn_app (goodIn_of _ (by decide +kernel)) ggL_law_X8_group
set_option maxRecDepth 20000 in
theorem ggL_law_X7_derive : GoodIn wsL_law wsX7_derive := goodIn_r _ [528, 27, 23, 257, 258, 2, 259, 529, 530, 531, 532, 20, 533, 534, 535, 536, 26, 537, 76, 66, 70, 72, 68, 375, 261, 121, 262, 538, 539, 540, 541, 352, 353, 82, 354, 88, 381, 382, 383, 384, 385, 134, 135, 136, 1090, 1091, 1092, 1093, 1094, 1095, 1096, 1131, 1132, 1133, 1134, 1135, 1136, 1137, 1138, 1139, 1140, 1141, 1142, 1143, 1144, 1145] (by decide +kernel) (by decide +kernel)
