set_option maxRecDepth 20000 in
theorem gL_law_X8_clear : GoodIn wsL_law (wsV RL 25 RX8 yX8_clear wsX8_clear) := goodIn_app (goodIn_of _ (by decide +kernel)) ggL_law_X8_clear
set_option maxRecDepth 20000 in
theorem ggL_law_X7_put : GoodIn wsL_law wsX7_put := goodIn_r _ [281, 20, 23, 282, 283, 284, 19, 285, 53, 52, 54, 55, 257, 258, 2, 259, 286, 287, 288, 289, 290, 82, 291, 292, 293, 45, 46, 47, 294, 81, 83, 84, 85, 86, 87, 88, 1090, 1091, 1092, 1093, 1094, 1095, 1096, 1131, 1132, 1133, 1134] (by decide +kernel) (by decide +kernel)
set_option maxRecDepth 20000 in
theorem gL_law_X7_put : GoodIn wsL_law (wsV RL 26 RX7 yX7_put wsX7_put) := goodIn_app (goodIn_of _ (by decide +kernel)) ggL_law_X7_put
set_option maxRecDepth 20000 in
theorem ggL_law_X8_put : GoodIn wsL_law wsX8_put := goodIn_r _ [298, 194, 299, 300, 301, 5, 302, 215, 214, 191, 271, 272, 273, 267, 268, 269, 270, 303, 304, 305, 306, 307, 308, 309, 310, 249, 250, 251, 252, 311, 312, 313, 314, 1097, 1098, 1099, 1100, 1101, 1102, 1103, 1104, 1105, 1106, 1107, 1108, 1109, 1110, 1111, 1112, 1113, 1114, 1115, 1116, 1117, 1118, 1119, 1120, 1121, 1122, 1123, 1124, 1125, 1126, 1127, 1128, 1129, 1130] (by decide +kernel) (by decide +kernel)
set_option maxRecDepth 20000 in
theorem gL_law_X8_put : GoodIn wsL_law (wsV RL 30 RX8 yX8_put wsX8_put) := goodIn_app (goodIn_of _ (by decide +kernel)) ggL_law_X8_put
set_option maxRecDepth 20000 in
theorem ggL_law_X7_at : GoodIn wsL_law wsX7_at := goodIn_r _ [318, 20, 23, 282, 283, 284, 19, 285, 53, 52, 54, 55, 257, 258, 2, 259, 1090, 1091, 1092, 1093, 1094, 1095, 1096, 1131, 1132, 1133, 1134] (by decide +kernel) (by decide +kernel)
set_option maxRecDepth 20000 in
theorem gL_law_X7_at : GoodIn wsL_law (wsV RL 31 RX7 yX7_at wsX7_at) := goodIn_app (goodIn_of _ (by decide +kernel)) ggL_law_X7_at
set_option maxRecDepth 20000 in
theorem ggL_law_X8_at : GoodIn wsL_law wsX8_at := goodIn_r _ [322, 194, 299, 300, 301, 5, 302, 215, 214, 191, 271, 272, 273, 267, 268, 269, 270, 1097, 1098, 1099, 1100, 1101, 1102, 1103, 1104, 1105, 1106, 1107, 1108, 1109, 1110, 1111, 1112, 1113, 1114, 1115, 1116, 1117, 1118, 1119, 1120, 1121, 1122, 1123, 1124, 1125, 1126, 1127, 1128, 1129, 1130] (by decide +kernel) (by decide +kernel)
set_option maxRecDepth 20000 in
theorem gL_law_X8_at : GoodIn wsL_law (wsV RL 35 RX8 yX8_at wsX8_at) := goodIn_app (goodIn_of _ (by decide +kernel)) ggL_law_X8_at
set_option maxRecDepth 20000 in
theorem ggL_law_X7_fraction : GoodIn wsL_law wsX7_fraction := goodIn_r _ [326, 327, 328, 329, 330, 331, 86, 82, 87, 88, 332, 333, 334, 335, 292] (by decide +kernel) (by decide +kernel)
set_option maxRecDepth 20000 in
theorem gL_law_X7_fraction : GoodIn wsL_law (wsV RL 36 RX7 yX7_fraction wsX7_fraction) := goodIn_app (goodIn_of _ (by decide +kernel)) ggL_law_X7_fraction
set_option maxRecDepth 20000 in
theorem ggL_law_X8_fraction : GoodIn wsL_law wsX8_fraction := goodIn_r _ [339, 340, 341, 249, 342, 343, 271, 272, 5, 273] (by decide +kernel) (by decide +kernel)
set_option maxRecDepth 20000 in
theorem gL_law_X8_fraction : GoodIn wsL_law (wsV RL 39 RX8 yX8_fraction wsX8_fraction) := goodIn_app (goodIn_of _ (by decide +kernel)) ggL_law_X8_fraction
set_option maxRecDepth 20000 in
theorem ggL_law_X7_add : GoodIn wsL_law wsX7_add := goodIn_r _ [347, 27, 23, 257, 258, 2, 259, 286, 287, 288, 289, 290, 82, 291, 292, 293, 45, 46, 47, 294, 81, 83, 84, 85, 86, 87, 88, 348, 349, 350, 26, 351, 352, 353, 354, 1090, 1091, 1092, 1093, 1094, 1095, 1096] (by decide +kernel) (by decide +kernel)
set_option maxRecDepth 20000 in
theorem gL_law_X7_add : GoodIn wsL_law (wsV RL 40 RX7 yX7_add wsX7_add) := goodIn_app (goodIn_of _ (by decide +kernel)) ggL_law_X7_add
set_option maxRecDepth 20000 in
theorem ggL_law_X8_add : GoodIn wsL_law wsX8_add := goodIn_r _ [358, 267, 268, 5, 269, 270, 271, 272, 273, 303, 304, 305, 306, 307, 359, 360, 361, 362, 216, 194, 308, 309, 310, 249, 250, 251, 252, 311, 312, 313, 314, 363, 364, 365, 366, 1097, 1098, 1099, 1100, 1101, 1102, 1103, 1104, 1105, 1106, 1107, 1108, 1109, 1110, 1111, 1112, 1113, 1114, 1115, 1116, 1117, 1118, 1119, 1120, 1121, 1122, 1123, 1124, 1125, 1126, 1127, 1128, 1129, 1130] (by decide +kernel) (by decide +kernel)
set_option maxRecDepth 20000 in
theorem gL_law_X8_add : GoodIn wsL_law (wsV RL 43 RX8 yX8_add wsX8_add) := goodIn_app (goodIn_of _ (by decide +kernel)) ggL_law_X8_add
set_option maxRecDepth 20000 in
theorem ggL_law_X7_times : GoodIn wsL_law wsX7_times := goodIn_r _ [370, 27, 23, 257, 258, 2, 259, 371, 372, 373, 26, 374, 76, 66, 375, 261, 121, 262, 376, 377, 378, 379, 70, 72, 380, 381, 382, 383, 384, 385, 134, 135, 136, 1090, 1091, 1092, 1093, 1094, 1095, 1096, 1135, 1136, 1137, 1138, 1139, 1140, 1141, 1142, 1143, 1144, 1145] (by decide +kernel) (by decide +kernel)
set_option maxRecDepth 20000 in
theorem gL_law_X7_times : GoodIn wsL_law (wsV RL 44 RX7 yX7_times wsX7_times) := goodIn_app (goodIn_of _ (by decide +kernel)) ggL_law_X7_times
set_option maxRecDepth 20000 in
theorem ggL_law_X8_times : GoodIn wsL_law wsX8_times := goodIn_r _ [389, 390, 391, 392, 5, 393, 267, 268, 269, 270, 271, 272, 273, 394, 395, 396, 397, 216, 192, 194, 249, 274, 275, 276, 277, 241, 242, 243, 244, 191, 190, 224, 225, 226, 227, 359, 360, 361, 362, 1097, 1098, 1099, 1100, 1101, 1102, 1103, 1104, 1105, 1106, 1107, 1108, 1109, 1110, 1111, 1112, 1113, 1114, 1115, 1116, 1117, 1118, 1119, 1120, 1121, 1122, 1123, 1124, 1125, 1126, 1127, 1128, 1129, 1130] (by decide +kernel) (by decide +kernel)
set_option maxRecDepth 20000 in
theorem gL_law_X8_times : GoodIn wsL_law (wsV RL 48 RX8 yX8_times wsX8_times) := goodIn_app (goodIn_of _ (by decide +kernel)) ggL_law_X8_times
set_option maxRecDepth 20000 in
theorem ggL_law_X7_bracket : GoodIn wsL_law wsX7_bracket := goodIn_r _ [401, 27, 23, 257, 258, 2, 259, 402, 403, 404, 26, 405, 76, 66, 406, 375, 261, 121, 262, 376, 377, 378, 379, 70, 72, 380, 381, 382, 383, 384, 385, 134, 135, 136, 1090, 1091, 1092, 1093, 1094, 1095, 1096, 1135, 1136, 1137, 1138, 1139, 1140, 1141, 1142, 1143, 1144, 1145] (by decide +kernel) (by decide +kernel)
set_option maxRecDepth 20000 in
theorem gL_law_X7_bracket : GoodIn wsL_law (wsV RL 49 RX7 yX7_bracket wsX7_bracket) := goodIn_app (goodIn_of _ (by decide +kernel)) ggL_law_X7_bracket
set_option maxRecDepth 20000 in
theorem ggL_law_X8_bracket : GoodIn wsL_law wsX8_bracket := goodIn_r _ [410, 390, 391, 392, 5, 393, 267, 268, 269, 270, 271, 272, 273, 411, 412, 413, 414, 340, 394, 395, 396, 397, 216, 192, 194, 249, 274, 275, 276, 277, 241, 242, 243, 244, 191, 190, 224, 225, 226, 227, 363, 364, 365, 366, 359, 360, 361, 362, 1097, 1098, 1099, 1100, 1101, 1102, 1103, 1104, 1105, 1106, 1107, 1108, 1109, 1110, 1111, 1112, 1113, 1114, 1115, 1116, 1117, 1118, 1119, 1120, 1121, 1122, 1123, 1124, 1125, 1126, 1127, 1128, 1129, 1130] (by decide +kernel) (by decide +kernel)
set_option maxRecDepth 20000 in
theorem gL_law_X8_bracket : GoodIn wsL_law (wsV RL 52 RX8 yX8_bracket wsX8_bracket) := goodIn_app (goodIn_of _ (by decide +kernel)) ggL_law_X8_bracket
