set_option maxRecDepth 100000 in
theorem ggL_law_X7_init : GoodIn wsL_law wsX7_init := goodIn_r _ [8, 9, 10, 11, 12, 13, 14, 15, 16, 17, 18, 19, 20, 21, 22, 23, 24, 25, 26, 27, 28, 29, 30, 31, 32, 33, 34, 35, 36, 37, 38, 39, 40, 41, 42, 43, 44, 45, 46, 47, 48, 49, 50, 51, 52, 53, 54, 55, 56, 57, 58, 59, 60, 61, 62, 63, 64, 65, 66, 67, 68, 69, 70, 71, 72, 73, 74, 75, 76, 77, 78, 79, 80, 81, 82, 83, 84, 85, 86, 1134, 1135, 1136, 1137, 1138, 1139, 1140, 1141, 1142, 1143, 1144, 1145, 1146, 1147, 1148, 1149, 1150, 1151, 1092, 1093, 1094, 1095, 1096, 1097, 1098, 1099, 1100, 1152, 1153, 1154, 1155, 1156, 1157, 1158, 1159, 1160, 1161, 1162, 1163, 1164, 1165, 1166, 1167, 1168, 1169, 1170, 1171, 1172, 1173, 1174, 1175, 1176, 1177, 1178, 1179] rfl (by decide +kernel)
set_option maxRecDepth 100000 in
theorem gL_law_X7_init : GoodIn wsL_law (wsX7_init) := ggL_law_X7_init
set_option maxRecDepth 100000 in
theorem ggL_law_X8_init : GoodIn wsL_law wsX8_init := goodIn_r _ [89, 90, 10, 11, 36, 91, 92, 79, 93, 94, 95, 96, 97, 98, 99, 100, 101, 102, 103, 104, 105, 106, 107, 5, 108, 109, 110, 111, 112, 113, 114, 115, 116, 117, 118, 119, 120, 121, 1101, 1102, 1103, 1104, 1105, 1106, 1107, 1108, 1109, 1110, 1111, 1112, 1113, 1114, 1115, 1116, 1117, 1118, 1119, 1120, 1121, 1122, 1123, 1124, 1125, 1126, 1127, 1128, 1129, 1130, 1131, 1132, 1133] rfl (by decide +kernel)
set_option maxRecDepth 100000 in
theorem gL_law_X8_init : GoodIn wsL_law (wsX8_init) := ggL_law_X8_init
set_option maxRecDepth 100000 in
theorem ggL_law_X7_feed : GoodIn wsL_law wsX7_feed := goodIn_r _ [125, 23, 126, 127, 128, 2, 129, 130, 131, 132, 70, 133, 134, 75, 1092, 1093, 1094, 1095, 1096, 1097, 1098, 1099, 1100, 1178, 1179] rfl (by decide +kernel)
set_option maxRecDepth 100000 in
theorem gL_law_X7_feed : GoodIn wsL_law (wsV RL 13 RX7 yX7_feed wsX7_feed) := goodIn_app (goodIn_r _ [122, 123, 124, 2] rfl (by decide +kernel)) ggL_law_X7_feed
set_option maxRecDepth 100000 in
theorem ggL_law_X8_feed : GoodIn wsL_law wsX8_feed := goodIn_r _ [138, 139, 140, 98, 141, 142, 5, 143, 1101, 1102, 1103, 1104, 1105, 1106, 1107, 1108, 1109, 1110, 1111, 1112, 1113, 1114, 1115, 1116, 1117, 1118, 1119, 1120, 1121, 1122, 1123, 1124, 1125, 1126, 1127, 1128, 1129, 1130, 1131, 1132, 1133] rfl (by decide +kernel)
set_option maxRecDepth 100000 in
theorem gL_law_X8_feed : GoodIn wsL_law (wsV RL 17 RX8 yX8_feed wsX8_feed) := goodIn_app (goodIn_r _ [135, 136, 137, 5] rfl (by decide +kernel)) ggL_law_X8_feed
set_option maxRecDepth 100000 in
theorem ggL_law_X7_end : GoodIn wsL_law wsX7_end := goodIn_r _ [147, 23, 126, 127, 128, 2, 129, 1092, 1093, 1094, 1095, 1096, 1097, 1098, 1099, 1100, 1178, 1179] rfl (by decide +kernel)
set_option maxRecDepth 100000 in
theorem gL_law_X7_end : GoodIn wsL_law (wsV RL 18 RX7 yX7_end wsX7_end) := goodIn_app (goodIn_r _ [144, 145, 146, 2] rfl (by decide +kernel)) ggL_law_X7_end
set_option maxRecDepth 100000 in
theorem ggL_law_X8_end : GoodIn wsL_law wsX8_end := goodIn_r _ [151, 140, 141, 142, 5, 143, 1101, 1102, 1103, 1104, 1105, 1106, 1107, 1108, 1109, 1110, 1111, 1112, 1113, 1114, 1115, 1116, 1117, 1118, 1119, 1120, 1121, 1122, 1123, 1124, 1125, 1126, 1127, 1128, 1129, 1130, 1131, 1132, 1133] rfl (by decide +kernel)
set_option maxRecDepth 100000 in
theorem gL_law_X8_end : GoodIn wsL_law (wsV RL 21 RX8 yX8_end wsX8_end) := goodIn_app (goodIn_r _ [148, 149, 150, 5] rfl (by decide +kernel)) ggL_law_X8_end
set_option maxRecDepth 100000 in
theorem ggL_law_X7_text : GoodIn wsL_law wsX7_text := goodIn_r _ [155, 21, 16, 23, 126, 156, 157, 15, 158, 159, 160, 161, 162, 20, 163, 164, 165, 166, 167, 168, 169, 170, 171, 172, 173, 174, 175, 176, 71, 177, 178, 179, 180, 14, 181, 35, 182, 183, 184, 38, 39, 43, 47, 185, 52, 186, 187, 188, 189, 190, 191, 192, 193, 194, 40, 41, 42, 195, 196, 197, 198, 199, 200, 201, 202, 203, 204, 205, 206, 207, 208, 209, 210, 211, 212, 213, 214, 215, 216, 217, 218, 219, 220, 221, 222, 223, 224, 225, 226, 227, 228, 229, 230, 231, 232, 233, 234, 235, 236, 237, 238, 239, 240, 241, 242, 243, 244, 245, 246, 247, 248, 249, 250, 251, 252, 253, 254, 255, 256, 257, 258, 259, 260, 261, 262, 263, 264, 265, 266, 267, 268, 269, 270, 271, 272, 273, 274, 275, 276, 277, 128, 2, 129, 278, 279, 280, 281, 282, 283, 284, 285, 37, 286, 287, 288, 289, 290, 291, 292, 293, 294, 295, 296, 297, 298, 299, 300, 301, 302, 303, 304, 305, 306, 307, 308, 309, 310, 311, 312, 313, 314, 315, 316, 317, 318, 319, 320, 321, 322, 323, 324, 325, 326, 327, 328, 329, 330, 331, 332, 333, 334, 335, 336, 337, 127, 338, 339, 340, 46, 341, 342, 56, 57, 58, 59, 343, 344, 345, 346, 347, 348, 349, 350, 351, 51, 352, 353, 63, 64, 354, 355, 356, 357, 358, 359, 360, 361, 362, 363, 364, 365, 366, 367, 368, 369, 370, 371, 372, 373, 374, 375, 1092, 1093, 1094, 1095, 1096, 1097, 1098, 1099, 1100, 1178, 1179, 1152, 1153, 1154, 1155, 1156, 1157, 1158, 1159, 1160, 1161, 1162, 1163, 1164, 1134, 1135, 1136, 1137, 1138, 1139, 1140, 1141, 1142, 1143, 1144, 1145, 1146, 1147, 1148, 1149, 1150, 1151, 1170, 1171, 1172, 1173, 1174, 1175, 1176, 1177] rfl (by decide +kernel)
set_option maxRecDepth 100000 in
theorem gL_law_X7_text : GoodIn wsL_law (wsV RL 22 RX7 yX7_text wsX7_text) := goodIn_app (goodIn_r _ [152, 153, 154, 2] rfl (by decide +kernel)) ggL_law_X7_text
set_option maxRecDepth 100000 in
theorem ggL_law_X8_text : GoodIn wsL_law wsX8_text := goodIn_r _ [379, 380, 381, 382, 113, 109, 114, 112, 140, 383, 105, 106, 107, 5, 108, 95, 97, 110, 111, 384, 385, 386, 387, 388, 389, 390, 391, 392, 393, 394, 395, 396, 397, 98, 141, 142, 143, 398, 399, 400, 401, 402, 403, 404, 405, 406, 407, 408, 409, 410, 411, 412, 413, 414, 415, 416, 417, 418, 419, 420, 421, 422, 423, 424, 425, 96, 426, 427, 428, 429, 430, 431, 432, 433, 434, 435, 436, 437, 438, 439, 440, 441, 442, 443, 444, 445, 446, 447, 448, 449, 450, 451, 452, 453, 454, 455, 456, 457, 458, 459, 460, 461, 462, 463, 464, 465, 466, 467, 468, 469, 470, 471, 472, 473, 115, 116, 117, 118, 91, 119, 120, 121, 94, 93, 1101, 1102, 1103, 1104, 1105, 1106, 1107, 1108, 1109, 1110, 1111, 1112, 1113, 1114, 1115, 1116, 1117, 1118, 1119, 1120, 1121, 1122, 1123, 1124, 1125, 1126, 1127, 1128, 1129, 1130, 1131, 1132, 1133] rfl (by decide +kernel)
set_option maxRecDepth 100000 in
theorem gL_law_X8_text : GoodIn wsL_law (wsV RL 26 RX8 yX8_text wsX8_text) := goodIn_app (goodIn_r _ [376, 377, 378, 5] rfl (by decide +kernel)) ggL_law_X8_text
set_option maxRecDepth 100000 in
theorem ggL_law_X7_fault : GoodIn wsL_law wsX7_fault := goodIn_r _ [477, 21, 156, 1092, 1093, 1094, 1095, 1096, 1097, 1098, 1099, 1100, 1152, 1153, 1154, 1155, 1156, 1157, 1158, 1159, 1160, 1161, 1162, 1163, 1164] rfl (by decide +kernel)
set_option maxRecDepth 100000 in
theorem gL_law_X7_fault : GoodIn wsL_law (wsV RL 27 RX7 yX7_fault wsX7_fault) := goodIn_app (goodIn_r _ [474, 475, 476, 2] rfl (by decide +kernel)) ggL_law_X7_fault
set_option maxRecDepth 100000 in
theorem ggL_law_X8_fault : GoodIn wsL_law wsX8_fault := goodIn_r _ [481, 380, 1101, 1102, 1103, 1104, 1105, 1106, 1107, 1108, 1109, 1110, 1111, 1112, 1113, 1114, 1115, 1116, 1117, 1118, 1119, 1120, 1121, 1122, 1123, 1124, 1125, 1126, 1127, 1128, 1129, 1130, 1131, 1132, 1133] rfl (by decide +kernel)
set_option maxRecDepth 100000 in
theorem gL_law_X8_fault : GoodIn wsL_law (wsV RL 30 RX8 yX8_fault wsX8_fault) := goodIn_app (goodIn_r _ [478, 479, 480, 5] rfl (by decide +kernel)) ggL_law_X8_fault
set_option maxRecDepth 100000 in
theorem ggL_law_X7_rule : GoodIn wsL_law wsX7_rule := goodIn_r _ [485, 15, 486, 487, 488, 489, 490, 491, 492, 493, 494, 495, 496, 1092, 1093, 1094, 1095, 1096, 1097, 1098, 1099, 1100, 1134, 1135, 1136, 1137, 1138, 1139, 1140, 1141, 1142, 1143, 1144, 1145, 1146, 1147, 1148, 1149, 1150, 1151, 1170, 1171, 1172, 1173, 1174, 1175, 1176, 1177] rfl (by decide +kernel)
set_option maxRecDepth 100000 in
theorem gL_law_X7_rule : GoodIn wsL_law (wsV RL 31 RX7 yX7_rule wsX7_rule) := goodIn_app (goodIn_r _ [482, 483, 484, 2] rfl (by decide +kernel)) ggL_law_X7_rule
set_option maxRecDepth 100000 in
theorem ggL_law_X8_rule : GoodIn wsL_law wsX8_rule := goodIn_r _ [500, 119, 120, 121, 91, 501, 502, 503, 504, 5, 505, 141, 142, 143, 1101, 1102, 1103, 1104, 1105, 1106, 1107, 1108, 1109, 1110, 1111, 1112, 1113, 1114, 1115, 1116, 1117, 1118, 1119, 1120, 1121, 1122, 1123, 1124, 1125, 1126, 1127, 1128, 1129, 1130, 1131, 1132, 1133] rfl (by decide +kernel)
set_option maxRecDepth 100000 in
theorem gL_law_X8_rule : GoodIn wsL_law (wsV RL 34 RX8 yX8_rule wsX8_rule) := goodIn_app (goodIn_r _ [497, 498, 499, 5] rfl (by decide +kernel)) ggL_law_X8_rule
set_option maxRecDepth 100000 in
theorem ggL_law_X7_house : GoodIn wsL_law wsX7_house := goodIn_r _ [509, 15, 510, 511, 512, 513, 514, 515, 488, 516, 517, 518, 519, 14, 520, 35, 128, 2, 129, 521, 304, 305, 127, 522, 523, 524, 1092, 1093, 1094, 1095, 1096, 1097, 1098, 1099, 1100, 1134, 1135, 1136, 1137, 1138, 1139, 1140, 1141, 1142, 1143, 1144, 1145, 1146, 1147, 1148, 1149, 1150, 1151] rfl (by decide +kernel)
set_option maxRecDepth 100000 in
theorem gL_law_X7_house : GoodIn wsL_law (wsV RL 35 RX7 yX7_house wsX7_house) := goodIn_app (goodIn_r _ [506, 507, 508, 2] rfl (by decide +kernel)) ggL_law_X7_house
set_option maxRecDepth 100000 in
theorem ggL_law_X8_house : GoodIn wsL_law wsX8_house := goodIn_r _ [528, 501, 91, 529, 530, 531, 5, 532, 119, 141, 142, 143, 533, 534, 535, 536, 121, 1101, 1102, 1103, 1104, 1105, 1106, 1107, 1108, 1109, 1110, 1111, 1112, 1113, 1114, 1115, 1116, 1117, 1118, 1119, 1120, 1121, 1122, 1123, 1124, 1125, 1126, 1127, 1128, 1129, 1130, 1131, 1132, 1133] rfl (by decide +kernel)
set_option maxRecDepth 100000 in
theorem gL_law_X8_house : GoodIn wsL_law (wsV RL 39 RX8 yX8_house wsX8_house) := goodIn_app (goodIn_r _ [525, 526, 527, 5] rfl (by decide +kernel)) ggL_law_X8_house
set_option maxRecDepth 100000 in
theorem ggL_law_X7_cost : GoodIn wsL_law wsX7_cost := goodIn_r _ [540, 15, 541, 542, 543, 544, 14, 545, 183, 128, 2, 129, 1092, 1093, 1094, 1095, 1096, 1097, 1098, 1099, 1100, 1134, 1135, 1136, 1137, 1138, 1139, 1140, 1141, 1142, 1143, 1144, 1145, 1146, 1147, 1148, 1149, 1150, 1151] rfl (by decide +kernel)
set_option maxRecDepth 100000 in
theorem gL_law_X7_cost : GoodIn wsL_law (wsV RL 40 RX7 yX7_cost wsX7_cost) := goodIn_app (goodIn_r _ [537, 538, 539, 2] rfl (by decide +kernel)) ggL_law_X7_cost
set_option maxRecDepth 100000 in
theorem ggL_law_X8_cost : GoodIn wsL_law wsX8_cost := goodIn_r _ [549, 94, 533, 534, 535, 5, 536, 121, 141, 142, 143, 1101, 1102, 1103, 1104, 1105, 1106, 1107, 1108, 1109, 1110, 1111, 1112, 1113, 1114, 1115, 1116, 1117, 1118, 1119, 1120, 1121, 1122, 1123, 1124, 1125, 1126, 1127, 1128, 1129, 1130, 1131, 1132, 1133] rfl (by decide +kernel)
set_option maxRecDepth 100000 in
theorem gL_law_X8_cost : GoodIn wsL_law (wsV RL 43 RX8 yX8_cost wsX8_cost) := goodIn_app (goodIn_r _ [546, 547, 548, 5] rfl (by decide +kernel)) ggL_law_X8_cost
set_option maxRecDepth 100000 in
theorem ggL_law_X7_vow : GoodIn wsL_law wsX7_vow := goodIn_r _ [553, 15, 489, 490, 554, 555, 556, 557, 127, 128, 2, 129, 1092, 1093, 1094, 1095, 1096, 1097, 1098, 1099, 1100, 1134, 1135, 1136, 1137, 1138, 1139, 1140, 1141, 1142, 1143, 1144, 1145, 1146, 1147, 1148, 1149, 1150, 1151, 1170, 1171, 1172, 1173, 1174] rfl (by decide +kernel)
set_option maxRecDepth 100000 in
theorem gL_law_X7_vow : GoodIn wsL_law (wsV RL 44 RX7 yX7_vow wsX7_vow) := goodIn_app (goodIn_r _ [550, 551, 552, 2] rfl (by decide +kernel)) ggL_law_X7_vow
set_option maxRecDepth 100000 in
theorem ggL_law_X8_vow : GoodIn wsL_law wsX8_vow := goodIn_r _ [561, 91, 562, 141, 142, 5, 143, 1101, 1102, 1103, 1104, 1105, 1106, 1107, 1108, 1109, 1110, 1111, 1112, 1113, 1114, 1115, 1116, 1117, 1118, 1119, 1120, 1121, 1122, 1123, 1124, 1125, 1126, 1127, 1128, 1129, 1130, 1131, 1132, 1133] rfl (by decide +kernel)
set_option maxRecDepth 100000 in
theorem gL_law_X8_vow : GoodIn wsL_law (wsV RL 47 RX8 yX8_vow wsX8_vow) := goodIn_app (goodIn_r _ [558, 559, 560, 5] rfl (by decide +kernel)) ggL_law_X8_vow
set_option maxRecDepth 100000 in
theorem ggL_law_X7_want : GoodIn wsL_law wsX7_want := goodIn_r _ [566, 15, 491, 492, 567, 568, 127, 128, 2, 129, 1092, 1093, 1094, 1095, 1096, 1097, 1098, 1099, 1100, 1134, 1135, 1136, 1137, 1138, 1139, 1140, 1141, 1142, 1143, 1144, 1145, 1146, 1147, 1148, 1149, 1150, 1151, 1175, 1176, 1177] rfl (by decide +kernel)
set_option maxRecDepth 100000 in
theorem gL_law_X7_want : GoodIn wsL_law (wsV RL 48 RX7 yX7_want wsX7_want) := goodIn_app (goodIn_r _ [563, 564, 565, 2] rfl (by decide +kernel)) ggL_law_X7_want
set_option maxRecDepth 100000 in
theorem ggL_law_X8_want : GoodIn wsL_law wsX8_want := goodIn_r _ [572, 91, 141, 142, 5, 143, 1101, 1102, 1103, 1104, 1105, 1106, 1107, 1108, 1109, 1110, 1111, 1112, 1113, 1114, 1115, 1116, 1117, 1118, 1119, 1120, 1121, 1122, 1123, 1124, 1125, 1126, 1127, 1128, 1129, 1130, 1131, 1132, 1133] rfl (by decide +kernel)
set_option maxRecDepth 100000 in
theorem gL_law_X8_want : GoodIn wsL_law (wsV RL 51 RX8 yX8_want wsX8_want) := goodIn_app (goodIn_r _ [569, 570, 571, 5] rfl (by decide +kernel)) ggL_law_X8_want
set_option maxRecDepth 100000 in
theorem ggL_law_X7_fund : GoodIn wsL_law wsX7_fund := goodIn_r _ [576, 15, 510, 517, 518, 519, 14, 520, 35, 128, 2, 129, 127, 1092, 1093, 1094, 1095, 1096, 1097, 1098, 1099, 1100, 1134, 1135, 1136, 1137, 1138, 1139, 1140, 1141, 1142, 1143, 1144, 1145, 1146, 1147, 1148, 1149, 1150, 1151] rfl (by decide +kernel)
set_option maxRecDepth 100000 in
theorem gL_law_X7_fund : GoodIn wsL_law (wsV RL 52 RX7 yX7_fund wsX7_fund) := goodIn_app (goodIn_r _ [573, 574, 575, 2] rfl (by decide +kernel)) ggL_law_X7_fund
set_option maxRecDepth 100000 in
theorem ggL_law_X8_fund : GoodIn wsL_law wsX8_fund := goodIn_r _ [580, 581, 529, 530, 531, 5, 532, 119, 141, 142, 143, 582, 583, 584, 585, 91, 1101, 1102, 1103, 1104, 1105, 1106, 1107, 1108, 1109, 1110, 1111, 1112, 1113, 1114, 1115, 1116, 1117, 1118, 1119, 1120, 1121, 1122, 1123, 1124, 1125, 1126, 1127, 1128, 1129, 1130, 1131, 1132, 1133] rfl (by decide +kernel)
set_option maxRecDepth 100000 in
theorem gL_law_X8_fund : GoodIn wsL_law (wsV RL 55 RX8 yX8_fund wsX8_fund) := goodIn_app (goodIn_r _ [577, 578, 579, 5] rfl (by decide +kernel)) ggL_law_X8_fund
set_option maxRecDepth 100000 in
theorem ggL_law_X7_can : GoodIn wsL_law wsX7_can := goodIn_r _ [589, 15, 511, 517, 518, 519, 14, 520, 35, 128, 2, 129, 542, 543, 544, 545, 183, 521, 304, 305, 590, 306, 307, 1092, 1093, 1094, 1095, 1096, 1097, 1098, 1099, 1100, 1134, 1135, 1136, 1137, 1138, 1139, 1140, 1141, 1142, 1143, 1144, 1145, 1146, 1147, 1148, 1149, 1150, 1151] rfl (by decide +kernel)
set_option maxRecDepth 100000 in
theorem gL_law_X7_can : GoodIn wsL_law (wsV RL 56 RX7 yX7_can wsX7_can) := goodIn_app (goodIn_r _ [586, 587, 588, 2] rfl (by decide +kernel)) ggL_law_X7_can
set_option maxRecDepth 100000 in
theorem ggL_law_X8_can : GoodIn wsL_law wsX8_can := goodIn_r _ [594, 91, 529, 530, 531, 5, 532, 119, 141, 142, 143, 533, 534, 535, 536, 121, 1101, 1102, 1103, 1104, 1105, 1106, 1107, 1108, 1109, 1110, 1111, 1112, 1113, 1114, 1115, 1116, 1117, 1118, 1119, 1120, 1121, 1122, 1123, 1124, 1125, 1126, 1127, 1128, 1129, 1130, 1131, 1132, 1133] rfl (by decide +kernel)
set_option maxRecDepth 100000 in
theorem gL_law_X8_can : GoodIn wsL_law (wsV RL 60 RX8 yX8_can wsX8_can) := goodIn_app (goodIn_r _ [591, 592, 593, 5] rfl (by decide +kernel)) ggL_law_X8_can
set_option maxRecDepth 100000 in
theorem ggL_law_X7_lawyer : GoodIn wsL_law wsX7_lawyer := goodIn_r _ [598, 15, 512, 517, 518, 519, 14, 520, 35, 128, 2, 129, 521, 304, 305, 590, 306, 307, 1092, 1093, 1094, 1095, 1096, 1097, 1098, 1099, 1100, 1134, 1135, 1136, 1137, 1138, 1139, 1140, 1141, 1142, 1143, 1144, 1145, 1146, 1147, 1148, 1149, 1150, 1151] rfl (by decide +kernel)
set_option maxRecDepth 100000 in
theorem gL_law_X7_lawyer : GoodIn wsL_law (wsV RL 61 RX7 yX7_lawyer wsX7_lawyer) := goodIn_app (goodIn_r _ [595, 596, 597, 2] rfl (by decide +kernel)) ggL_law_X7_lawyer
set_option maxRecDepth 100000 in
theorem ggL_law_X8_lawyer : GoodIn wsL_law wsX8_lawyer := goodIn_r _ [602, 529, 530, 531, 5, 532, 119, 141, 142, 143, 503, 504, 505, 582, 583, 584, 585, 91, 1101, 1102, 1103, 1104, 1105, 1106, 1107, 1108, 1109, 1110, 1111, 1112, 1113, 1114, 1115, 1116, 1117, 1118, 1119, 1120, 1121, 1122, 1123, 1124, 1125, 1126, 1127, 1128, 1129, 1130, 1131, 1132, 1133] rfl (by decide +kernel)
set_option maxRecDepth 100000 in
theorem gL_law_X8_lawyer : GoodIn wsL_law (wsV RL 65 RX8 yX8_lawyer wsX8_lawyer) := goodIn_app (goodIn_r _ [599, 600, 601, 5] rfl (by decide +kernel)) ggL_law_X8_lawyer
set_option maxRecDepth 100000 in
theorem ggL_law_X7_habit : GoodIn wsL_law wsX7_habit := goodIn_r _ [606, 15, 515, 517, 518, 519, 14, 520, 35, 128, 2, 129, 607, 608, 609, 127, 542, 543, 544, 545, 183, 610, 192, 193, 194, 40, 41, 42, 1092, 1093, 1094, 1095, 1096, 1097, 1098, 1099, 1100, 1134, 1135, 1136, 1137, 1138, 1139, 1140, 1141, 1142, 1143, 1144, 1145, 1146, 1147, 1148, 1149, 1150, 1151] rfl (by decide +kernel)
set_option maxRecDepth 100000 in
theorem gL_law_X7_habit : GoodIn wsL_law (wsV RL 66 RX7 yX7_habit wsX7_habit) := goodIn_app (goodIn_r _ [603, 604, 605, 2] rfl (by decide +kernel)) ggL_law_X7_habit
set_option maxRecDepth 100000 in
theorem ggL_law_X8_habit : GoodIn wsL_law wsX8_habit := goodIn_r _ [614, 615, 91, 529, 530, 531, 5, 532, 119, 141, 142, 143, 616, 617, 618, 619, 533, 534, 535, 536, 121, 582, 583, 584, 585, 1101, 1102, 1103, 1104, 1105, 1106, 1107, 1108, 1109, 1110, 1111, 1112, 1113, 1114, 1115, 1116, 1117, 1118, 1119, 1120, 1121, 1122, 1123, 1124, 1125, 1126, 1127, 1128, 1129, 1130, 1131, 1132, 1133] rfl (by decide +kernel)
set_option maxRecDepth 100000 in
theorem gL_law_X8_habit : GoodIn wsL_law (wsV RL 70 RX8 yX8_habit wsX8_habit) := goodIn_app (goodIn_r _ [611, 612, 613, 5] rfl (by decide +kernel)) ggL_law_X8_habit
set_option maxRecDepth 100000 in
theorem ggL_law_X7_vows : GoodIn wsL_law wsX7_vows := goodIn_r _ [623, 15, 489, 490, 517, 518, 519, 14, 520, 35, 128, 2, 129, 607, 608, 609, 127, 624, 336, 337, 542, 543, 544, 545, 183, 625, 339, 340, 46, 341, 342, 56, 57, 58, 59, 1092, 1093, 1094, 1095, 1096, 1097, 1098, 1099, 1100, 1134, 1135, 1136, 1137, 1138, 1139, 1140, 1141, 1142, 1143, 1144, 1145, 1146, 1147, 1148, 1149, 1150, 1151, 1170, 1171, 1172, 1173, 1174] rfl (by decide +kernel)
set_option maxRecDepth 100000 in
theorem gL_law_X7_vows : GoodIn wsL_law (wsV RL 71 RX7 yX7_vows wsX7_vows) := goodIn_app (goodIn_r _ [620, 621, 622, 2] rfl (by decide +kernel)) ggL_law_X7_vows
set_option maxRecDepth 100000 in
theorem ggL_law_X8_vows : GoodIn wsL_law wsX8_vows := goodIn_r _ [629, 91, 529, 530, 531, 5, 532, 119, 141, 142, 143, 616, 617, 618, 619, 630, 631, 632, 562, 533, 534, 535, 536, 121, 1101, 1102, 1103, 1104, 1105, 1106, 1107, 1108, 1109, 1110, 1111, 1112, 1113, 1114, 1115, 1116, 1117, 1118, 1119, 1120, 1121, 1122, 1123, 1124, 1125, 1126, 1127, 1128, 1129, 1130, 1131, 1132, 1133] rfl (by decide +kernel)
set_option maxRecDepth 100000 in
theorem gL_law_X8_vows : GoodIn wsL_law (wsV RL 74 RX8 yX8_vows wsX8_vows) := goodIn_app (goodIn_r _ [626, 627, 628, 5] rfl (by decide +kernel)) ggL_law_X8_vows
set_option maxRecDepth 100000 in
theorem ggL_law_X7_wish : GoodIn wsL_law wsX7_wish := goodIn_r _ [636, 15, 491, 492, 517, 518, 519, 14, 520, 35, 128, 2, 129, 542, 543, 544, 545, 183, 637, 350, 351, 51, 352, 353, 63, 64, 1092, 1093, 1094, 1095, 1096, 1097, 1098, 1099, 1100, 1134, 1135, 1136, 1137, 1138, 1139, 1140, 1141, 1142, 1143, 1144, 1145, 1146, 1147, 1148, 1149, 1150, 1151, 1175, 1176, 1177] rfl (by decide +kernel)
set_option maxRecDepth 100000 in
theorem gL_law_X7_wish : GoodIn wsL_law (wsV RL 75 RX7 yX7_wish wsX7_wish) := goodIn_app (goodIn_r _ [633, 634, 635, 2] rfl (by decide +kernel)) ggL_law_X7_wish
set_option maxRecDepth 100000 in
theorem ggL_law_X8_wish : GoodIn wsL_law wsX8_wish := goodIn_r _ [641, 91, 529, 530, 531, 5, 532, 119, 141, 142, 143, 533, 534, 535, 536, 121, 1101, 1102, 1103, 1104, 1105, 1106, 1107, 1108, 1109, 1110, 1111, 1112, 1113, 1114, 1115, 1116, 1117, 1118, 1119, 1120, 1121, 1122, 1123, 1124, 1125, 1126, 1127, 1128, 1129, 1130, 1131, 1132, 1133] rfl (by decide +kernel)
set_option maxRecDepth 100000 in
theorem gL_law_X8_wish : GoodIn wsL_law (wsV RL 78 RX8 yX8_wish wsX8_wish) := goodIn_app (goodIn_r _ [638, 639, 640, 5] rfl (by decide +kernel)) ggL_law_X8_wish
set_option maxRecDepth 100000 in
theorem ggL_law_X7_drop : GoodIn wsL_law wsX7_drop := goodIn_r _ [645, 15, 489, 490, 491, 492, 127, 128, 2, 129, 1092, 1093, 1094, 1095, 1096, 1097, 1098, 1099, 1100, 1134, 1135, 1136, 1137, 1138, 1139, 1140, 1141, 1142, 1143, 1144, 1145, 1146, 1147, 1148, 1149, 1150, 1151, 1170, 1171, 1172, 1173, 1174, 1175, 1176, 1177] rfl (by decide +kernel)
set_option maxRecDepth 100000 in
theorem gL_law_X7_drop : GoodIn wsL_law (wsV RL 79 RX7 yX7_drop wsX7_drop) := goodIn_app (goodIn_r _ [642, 643, 644, 2] rfl (by decide +kernel)) ggL_law_X7_drop
set_option maxRecDepth 100000 in
theorem ggL_law_X8_drop : GoodIn wsL_law wsX8_drop := goodIn_r _ [649, 91, 141, 142, 5, 143, 582, 583, 584, 585, 1101, 1102, 1103, 1104, 1105, 1106, 1107, 1108, 1109, 1110, 1111, 1112, 1113, 1114, 1115, 1116, 1117, 1118, 1119, 1120, 1121, 1122, 1123, 1124, 1125, 1126, 1127, 1128, 1129, 1130, 1131, 1132, 1133] rfl (by decide +kernel)
set_option maxRecDepth 100000 in
theorem gL_law_X8_drop : GoodIn wsL_law (wsV RL 82 RX8 yX8_drop wsX8_drop) := goodIn_app (goodIn_r _ [646, 647, 648, 5] rfl (by decide +kernel)) ggL_law_X8_drop
set_option maxRecDepth 100000 in
theorem ggL_law_X7_move : GoodIn wsL_law wsX7_move := goodIn_r _ [653, 15, 511, 517, 518, 519, 14, 520, 35, 128, 2, 129, 654, 655, 656, 657, 38, 39, 658, 659, 660, 661, 662, 663, 664, 1092, 1093, 1094, 1095, 1096, 1097, 1098, 1099, 1100, 1134, 1135, 1136, 1137, 1138, 1139, 1140, 1141, 1142, 1143, 1144, 1145, 1146, 1147, 1148, 1149, 1150, 1151] rfl (by decide +kernel)
set_option maxRecDepth 100000 in
theorem gL_law_X7_move : GoodIn wsL_law (wsV RL 83 RX7 yX7_move wsX7_move) := goodIn_app (goodIn_r _ [650, 651, 652, 2] rfl (by decide +kernel)) ggL_law_X7_move
set_option maxRecDepth 100000 in
theorem ggL_law_X8_move : GoodIn wsL_law wsX8_move := goodIn_r _ [668, 91, 529, 530, 531, 5, 532, 119, 141, 142, 143, 669, 670, 671, 672, 673, 674, 675, 676, 677, 678, 679, 1101, 1102, 1103, 1104, 1105, 1106, 1107, 1108, 1109, 1110, 1111, 1112, 1113, 1114, 1115, 1116, 1117, 1118, 1119, 1120, 1121, 1122, 1123, 1124, 1125, 1126, 1127, 1128, 1129, 1130, 1131, 1132, 1133] rfl (by decide +kernel)
set_option maxRecDepth 100000 in
theorem gL_law_X8_move : GoodIn wsL_law (wsV RL 86 RX8 yX8_move wsX8_move) := goodIn_app (goodIn_r _ [665, 666, 667, 5] rfl (by decide +kernel)) ggL_law_X8_move
set_option maxRecDepth 100000 in
theorem ggL_law_X7_go : GoodIn wsL_law wsX7_go := goodIn_r _ [683, 15, 493, 127, 128, 2, 129, 684, 685, 686, 14, 687, 688, 689, 690, 691, 48, 185, 47, 692, 693, 187, 694, 695, 696, 697, 698, 699, 700, 701, 702, 703, 182, 35, 704, 705, 706, 707, 188, 184, 189, 708, 709, 304, 305, 710, 339, 340, 46, 341, 342, 56, 57, 58, 59, 711, 712, 713, 714, 43, 715, 297, 298, 299, 39, 38, 37, 190, 716, 717, 718, 523, 524, 1092, 1093, 1094, 1095, 1096, 1097, 1098, 1099, 1100, 1134, 1135, 1136, 1137, 1138, 1139, 1140, 1141, 1142, 1143, 1144, 1145, 1146, 1147, 1148, 1149, 1150, 1151, 1170, 1171, 1172, 1173, 1174] rfl (by decide +kernel)
set_option maxRecDepth 100000 in
theorem gL_law_X7_go : GoodIn wsL_law (wsV RL 87 RX7 yX7_go wsX7_go) := goodIn_app (goodIn_r _ [680, 681, 682, 2] rfl (by decide +kernel)) ggL_law_X7_go
set_option maxRecDepth 100000 in
theorem ggL_law_X8_go : GoodIn wsL_law wsX8_go := goodIn_r _ [722, 723, 91, 92, 724, 141, 142, 5, 143, 725, 726, 727, 728, 729, 730, 731, 732, 733, 734, 735, 736, 737, 99, 738, 739, 740, 741, 742, 743, 744, 745, 746, 747, 120, 119, 748, 749, 750, 751, 752, 753, 754, 755, 756, 757, 758, 759, 94, 503, 504, 505, 1101, 1102, 1103, 1104, 1105, 1106, 1107, 1108, 1109, 1110, 1111, 1112, 1113, 1114, 1115, 1116, 1117, 1118, 1119, 1120, 1121, 1122, 1123, 1124, 1125, 1126, 1127, 1128, 1129, 1130, 1131, 1132, 1133] rfl (by decide +kernel)
set_option maxRecDepth 100000 in
theorem gL_law_X8_go : GoodIn wsL_law (wsV RL 90 RX8 yX8_go wsX8_go) := goodIn_app (goodIn_r _ [719, 720, 721, 5] rfl (by decide +kernel)) ggL_law_X8_go
set_option maxRecDepth 100000 in
theorem ggL_law_X7_ahead : GoodIn wsL_law wsX7_ahead := goodIn_r _ [763, 15, 16, 516, 517, 518, 519, 14, 520, 35, 128, 2, 129, 542, 543, 544, 545, 183, 127, 358, 359, 360, 361, 182, 184, 37, 362, 363, 364, 365, 38, 39, 40, 41, 42, 43, 47, 52, 187, 188, 189, 190, 366, 367, 368, 46, 369, 342, 56, 370, 57, 58, 59, 371, 372, 373, 51, 374, 353, 63, 375, 64, 684, 685, 686, 687, 688, 689, 690, 691, 48, 185, 692, 693, 694, 695, 696, 697, 698, 699, 700, 701, 702, 703, 704, 705, 706, 707, 708, 709, 304, 305, 710, 339, 340, 341, 711, 712, 713, 714, 715, 297, 298, 299, 716, 717, 718, 523, 524, 522, 1092, 1093, 1094, 1095, 1096, 1097, 1098, 1099, 1100, 1134, 1135, 1136, 1137, 1138, 1139, 1140, 1141, 1142, 1143, 1144, 1145, 1146, 1147, 1148, 1149, 1150, 1151, 1170, 1171, 1172, 1173, 1174, 1175, 1176, 1177] rfl (by decide +kernel)
set_option maxRecDepth 100000 in
theorem gL_law_X7_ahead : GoodIn wsL_law (wsV RL 91 RX7 yX7_ahead wsX7_ahead) := goodIn_app (goodIn_r _ [760, 761, 762, 2] rfl (by decide +kernel)) ggL_law_X7_ahead
set_option maxRecDepth 100000 in
theorem ggL_law_X8_ahead : GoodIn wsL_law wsX8_ahead := goodIn_r _ [767, 723, 92, 529, 530, 531, 5, 532, 119, 141, 142, 143, 533, 534, 535, 536, 121, 725, 726, 727, 728, 91, 729, 730, 731, 732, 724, 733, 734, 735, 736, 737, 99, 738, 739, 740, 741, 742, 743, 744, 745, 746, 747, 120, 748, 749, 750, 751, 752, 753, 754, 755, 756, 757, 758, 759, 94, 503, 504, 505, 1101, 1102, 1103, 1104, 1105, 1106, 1107, 1108, 1109, 1110, 1111, 1112, 1113, 1114, 1115, 1116, 1117, 1118, 1119, 1120, 1121, 1122, 1123, 1124, 1125, 1126, 1127, 1128, 1129, 1130, 1131, 1132, 1133] rfl (by decide +kernel)
set_option maxRecDepth 100000 in
theorem gL_law_X8_ahead : GoodIn wsL_law (wsV RL 95 RX8 yX8_ahead wsX8_ahead) := goodIn_app (goodIn_r _ [764, 765, 766, 5] rfl (by decide +kernel)) ggL_law_X8_ahead
set_option maxRecDepth 100000 in
theorem ggL_law_X7_rest : GoodIn wsL_law wsX7_rest := goodIn_r _ [771, 16, 15, 489, 490, 358, 359, 360, 14, 361, 35, 182, 183, 184, 37, 362, 363, 364, 365, 38, 39, 40, 41, 42, 43, 47, 52, 187, 188, 189, 190, 366, 367, 368, 46, 369, 342, 56, 370, 57, 58, 59, 371, 372, 373, 51, 374, 353, 63, 375, 64, 772, 689, 690, 691, 48, 185, 692, 693, 694, 695, 696, 697, 698, 699, 700, 701, 702, 703, 704, 705, 706, 707, 708, 709, 304, 2, 305, 710, 339, 340, 341, 711, 712, 713, 714, 715, 297, 298, 299, 716, 717, 718, 523, 524, 1092, 1093, 1094, 1095, 1096, 1097, 1098, 1099, 1100, 1134, 1135, 1136, 1137, 1138, 1139, 1140, 1141, 1142, 1143, 1144, 1145, 1146, 1147, 1148, 1149, 1150, 1151, 1170, 1171, 1172, 1173, 1174, 1175, 1176, 1177] rfl (by decide +kernel)
set_option maxRecDepth 100000 in
theorem gL_law_X7_rest : GoodIn wsL_law (wsV RL 96 RX7 yX7_rest wsX7_rest) := goodIn_app (goodIn_r _ [768, 769, 770, 2] rfl (by decide +kernel)) ggL_law_X7_rest
set_option maxRecDepth 100000 in
theorem ggL_law_X8_rest : GoodIn wsL_law wsX8_rest := goodIn_r _ [776, 92, 725, 726, 727, 5, 728, 91, 733, 734, 735, 736, 737, 99, 738, 739, 740, 741, 742, 743, 744, 745, 746, 747, 120, 119, 141, 142, 143, 748, 749, 750, 751, 752, 753, 754, 755, 756, 757, 758, 759, 94, 724, 503, 504, 505, 1101, 1102, 1103, 1104, 1105, 1106, 1107, 1108, 1109, 1110, 1111, 1112, 1113, 1114, 1115, 1116, 1117, 1118, 1119, 1120, 1121, 1122, 1123, 1124, 1125, 1126, 1127, 1128, 1129, 1130, 1131, 1132, 1133] rfl (by decide +kernel)
set_option maxRecDepth 100000 in
theorem gL_law_X8_rest : GoodIn wsL_law (wsV RL 99 RX8 yX8_rest wsX8_rest) := goodIn_app (goodIn_r _ [773, 774, 775, 5] rfl (by decide +kernel)) ggL_law_X8_rest
set_option maxRecDepth 100000 in
theorem ggL_law_X7_plan : GoodIn wsL_law wsX7_plan := goodIn_r _ [780, 27, 15, 781, 782, 783, 26, 784, 80, 785, 81, 786, 717, 298, 718, 787, 2, 788, 789, 790, 791, 792, 793, 794, 795, 796, 797, 798, 799, 14, 800, 184, 35, 39, 801, 802, 803, 804, 694, 695, 696, 697, 698, 699, 805, 806, 807, 808, 182, 304, 305, 306, 307, 809, 810, 811, 812, 813, 814, 815, 1092, 1093, 1094, 1095, 1096, 1097, 1098, 1099, 1100, 1165, 1166, 1134, 1135, 1136, 1137, 1138, 1139, 1140, 1141, 1142, 1143, 1144, 1145, 1146, 1147, 1148, 1149, 1150, 1151, 1175, 1176, 1177] rfl (by decide +kernel)
set_option maxRecDepth 100000 in
theorem gL_law_X7_plan : GoodIn wsL_law (wsV RL 100 RX7 yX7_plan wsX7_plan) := goodIn_app (goodIn_r _ [777, 778, 779, 2] rfl (by decide +kernel)) ggL_law_X7_plan
set_option maxRecDepth 100000 in
theorem ggL_law_X8_plan : GoodIn wsL_law wsX8_plan := goodIn_r _ [819, 615, 820, 91, 101, 821, 100, 141, 142, 5, 143, 822, 823, 824, 825, 826, 827, 828, 829, 119, 121, 830, 831, 832, 833, 834, 835, 836, 837, 838, 839, 840, 841, 842, 843, 844, 845, 738, 739, 740, 741, 742, 743, 744, 745, 746, 747, 120, 503, 504, 505, 1101, 1102, 1103, 1104, 1105, 1106, 1107, 1108, 1109, 1110, 1111, 1112, 1113, 1114, 1115, 1116, 1117, 1118, 1119, 1120, 1121, 1122, 1123, 1124, 1125, 1126, 1127, 1128, 1129, 1130, 1131, 1132, 1133] rfl (by decide +kernel)
set_option maxRecDepth 100000 in
theorem gL_law_X8_plan : GoodIn wsL_law (wsV RL 103 RX8 yX8_plan wsX8_plan) := goodIn_app (goodIn_r _ [816, 817, 818, 5] rfl (by decide +kernel)) ggL_law_X8_plan
set_option maxRecDepth 100000 in
theorem ggL_law_X7_who : GoodIn wsL_law wsX7_who := goodIn_r _ [849, 15, 486, 517, 518, 519, 14, 520, 35, 128, 2, 129, 542, 543, 544, 545, 183, 127, 850, 851, 852, 853, 798, 799, 800, 184, 39, 801, 802, 803, 804, 694, 695, 696, 697, 698, 699, 805, 806, 807, 808, 182, 304, 305, 306, 307, 521, 590, 1092, 1093, 1094, 1095, 1096, 1097, 1098, 1099, 1100, 1134, 1135, 1136, 1137, 1138, 1139, 1140, 1141, 1142, 1143, 1144, 1145, 1146, 1147, 1148, 1149, 1150, 1151] rfl (by decide +kernel)
set_option maxRecDepth 100000 in
theorem gL_law_X7_who : GoodIn wsL_law (wsV RL 104 RX7 yX7_who wsX7_who) := goodIn_app (goodIn_r _ [846, 847, 848, 2] rfl (by decide +kernel)) ggL_law_X7_who
set_option maxRecDepth 100000 in
theorem ggL_law_X8_who : GoodIn wsL_law wsX8_who := goodIn_r _ [857, 619, 119, 529, 530, 531, 5, 532, 141, 142, 143, 533, 534, 535, 536, 121, 830, 831, 832, 833, 91, 834, 835, 836, 837, 838, 839, 840, 841, 842, 843, 844, 845, 738, 739, 740, 741, 742, 743, 744, 745, 746, 747, 120, 503, 504, 505, 1101, 1102, 1103, 1104, 1105, 1106, 1107, 1108, 1109, 1110, 1111, 1112, 1113, 1114, 1115, 1116, 1117, 1118, 1119, 1120, 1121, 1122, 1123, 1124, 1125, 1126, 1127, 1128, 1129, 1130, 1131, 1132, 1133] rfl (by decide +kernel)
set_option maxRecDepth 100000 in
theorem gL_law_X8_who : GoodIn wsL_law (wsV RL 107 RX8 yX8_who wsX8_who) := goodIn_app (goodIn_r _ [854, 855, 856, 5] rfl (by decide +kernel)) ggL_law_X8_who
set_option maxRecDepth 100000 in
theorem ggL_law_X7_ways : GoodIn wsL_law wsX7_ways := goodIn_r _ [861, 15, 486, 517, 518, 519, 14, 520, 35, 128, 2, 129, 542, 543, 544, 545, 183, 127, 862, 787, 788, 853, 798, 799, 800, 184, 39, 801, 802, 803, 804, 694, 695, 696, 697, 698, 699, 805, 806, 807, 808, 182, 304, 305, 306, 307, 521, 1092, 1093, 1094, 1095, 1096, 1097, 1098, 1099, 1100, 1134, 1135, 1136, 1137, 1138, 1139, 1140, 1141, 1142, 1143, 1144, 1145, 1146, 1147, 1148, 1149, 1150, 1151] rfl (by decide +kernel)
set_option maxRecDepth 100000 in
theorem gL_law_X7_ways : GoodIn wsL_law (wsV RL 108 RX7 yX7_ways wsX7_ways) := goodIn_app (goodIn_r _ [858, 859, 860, 2] rfl (by decide +kernel)) ggL_law_X7_ways
set_option maxRecDepth 100000 in
theorem ggL_law_X8_ways : GoodIn wsL_law wsX8_ways := goodIn_r _ [866, 119, 529, 530, 531, 5, 532, 141, 142, 143, 533, 534, 535, 536, 121, 830, 831, 832, 833, 91, 834, 835, 836, 837, 838, 839, 840, 841, 842, 843, 844, 845, 738, 739, 740, 741, 742, 743, 744, 745, 746, 747, 120, 503, 504, 505, 1101, 1102, 1103, 1104, 1105, 1106, 1107, 1108, 1109, 1110, 1111, 1112, 1113, 1114, 1115, 1116, 1117, 1118, 1119, 1120, 1121, 1122, 1123, 1124, 1125, 1126, 1127, 1128, 1129, 1130, 1131, 1132, 1133] rfl (by decide +kernel)
set_option maxRecDepth 100000 in
theorem gL_law_X8_ways : GoodIn wsL_law (wsV RL 111 RX8 yX8_ways wsX8_ways) := goodIn_app (goodIn_r _ [863, 864, 865, 5] rfl (by decide +kernel)) ggL_law_X8_ways
set_option maxRecDepth 100000 in
theorem ggL_law_X7_ever : GoodIn wsL_law wsX7_ever := goodIn_r _ [870, 15, 489, 490, 512, 871, 872, 873, 14, 874, 47, 708, 693, 692, 801, 802, 803, 804, 694, 695, 696, 697, 698, 699, 805, 806, 807, 808, 35, 182, 590, 306, 2, 307, 1092, 1093, 1094, 1095, 1096, 1097, 1098, 1099, 1100, 1134, 1135, 1136, 1137, 1138, 1139, 1140, 1141, 1142, 1143, 1144, 1145, 1146, 1147, 1148, 1149, 1150, 1151, 1170, 1171, 1172, 1173, 1174] rfl (by decide +kernel)
set_option maxRecDepth 100000 in
theorem gL_law_X7_ever : GoodIn wsL_law (wsV RL 112 RX7 yX7_ever wsX7_ever) := goodIn_app (goodIn_r _ [867, 868, 869, 2] rfl (by decide +kernel)) ggL_law_X7_ever
set_option maxRecDepth 100000 in
theorem ggL_law_X8_ever : GoodIn wsL_law wsX8_ever := goodIn_r _ [878, 838, 839, 840, 5, 841, 119, 91, 879, 880, 881, 882, 883, 884, 885, 886, 842, 843, 844, 845, 738, 739, 740, 741, 742, 743, 744, 745, 746, 747, 120, 141, 142, 143, 503, 504, 505, 1101, 1102, 1103, 1104, 1105, 1106, 1107, 1108, 1109, 1110, 1111, 1112, 1113, 1114, 1115, 1116, 1117, 1118, 1119, 1120, 1121, 1122, 1123, 1124, 1125, 1126, 1127, 1128, 1129, 1130, 1131, 1132, 1133] rfl (by decide +kernel)
set_option maxRecDepth 100000 in
theorem gL_law_X8_ever : GoodIn wsL_law (wsV RL 115 RX8 yX8_ever wsX8_ever) := goodIn_app (goodIn_r _ [875, 876, 877, 5] rfl (by decide +kernel)) ggL_law_X8_ever
set_option maxRecDepth 100000 in
theorem ggL_law_X7_stop : GoodIn wsL_law wsX7_stop := goodIn_r _ [890, 15, 486, 512, 127, 128, 2, 129, 658, 659, 660, 661, 662, 663, 664, 891, 892, 893, 14, 894, 47, 185, 895, 872, 873, 874, 708, 693, 692, 801, 802, 803, 804, 694, 695, 696, 697, 698, 699, 805, 806, 807, 808, 35, 182, 1092, 1093, 1094, 1095, 1096, 1097, 1098, 1099, 1100, 1134, 1135, 1136, 1137, 1138, 1139, 1140, 1141, 1142, 1143, 1144, 1145, 1146, 1147, 1148, 1149, 1150, 1151, 1170, 1171, 1172, 1173, 1174] rfl (by decide +kernel)
set_option maxRecDepth 100000 in
theorem gL_law_X7_stop : GoodIn wsL_law (wsV RL 116 RX7 yX7_stop wsX7_stop) := goodIn_app (goodIn_r _ [887, 888, 889, 2] rfl (by decide +kernel)) ggL_law_X7_stop
set_option maxRecDepth 100000 in
theorem ggL_law_X8_stop : GoodIn wsL_law wsX8_stop := goodIn_r _ [899, 821, 119, 141, 142, 5, 143, 838, 839, 840, 841, 91, 677, 678, 679, 879, 880, 881, 882, 883, 884, 885, 886, 842, 843, 844, 845, 738, 739, 740, 741, 742, 743, 744, 745, 746, 747, 120, 503, 504, 505, 1101, 1102, 1103, 1104, 1105, 1106, 1107, 1108, 1109, 1110, 1111, 1112, 1113, 1114, 1115, 1116, 1117, 1118, 1119, 1120, 1121, 1122, 1123, 1124, 1125, 1126, 1127, 1128, 1129, 1130, 1131, 1132, 1133] rfl (by decide +kernel)
set_option maxRecDepth 100000 in
theorem gL_law_X8_stop : GoodIn wsL_law (wsV RL 119 RX8 yX8_stop wsX8_stop) := goodIn_app (goodIn_r _ [896, 897, 898, 5] rfl (by decide +kernel)) ggL_law_X8_stop
set_option maxRecDepth 100000 in
theorem ggL_law_X7_best : GoodIn wsL_law wsX7_best := goodIn_r _ [903, 16, 15, 486, 127, 128, 2, 129, 358, 359, 360, 14, 361, 35, 182, 183, 184, 37, 362, 363, 364, 365, 38, 39, 40, 41, 42, 43, 47, 52, 187, 188, 189, 190, 366, 367, 368, 46, 369, 342, 56, 370, 57, 58, 59, 371, 372, 373, 51, 374, 353, 63, 375, 64, 684, 685, 686, 687, 688, 689, 690, 691, 48, 185, 692, 693, 694, 695, 696, 697, 698, 699, 700, 701, 702, 703, 704, 705, 706, 707, 708, 709, 304, 305, 710, 339, 340, 341, 711, 712, 713, 714, 715, 297, 298, 299, 716, 717, 718, 523, 524, 654, 655, 656, 657, 1092, 1093, 1094, 1095, 1096, 1097, 1098, 1099, 1100, 1134, 1135, 1136, 1137, 1138, 1139, 1140, 1141, 1142, 1143, 1144, 1145, 1146, 1147, 1148, 1149, 1150, 1151, 1170, 1171, 1172, 1173, 1174, 1175, 1176, 1177] rfl (by decide +kernel)
set_option maxRecDepth 100000 in
theorem gL_law_X7_best : GoodIn wsL_law (wsV RL 120 RX7 yX7_best wsX7_best) := goodIn_app (goodIn_r _ [900, 901, 902, 2] rfl (by decide +kernel)) ggL_law_X7_best
set_option maxRecDepth 100000 in
theorem ggL_law_X8_best : GoodIn wsL_law wsX8_best := goodIn_r _ [907, 908, 724, 119, 141, 142, 5, 143, 725, 726, 727, 728, 92, 91, 729, 730, 731, 732, 733, 734, 735, 736, 737, 99, 738, 739, 740, 741, 742, 743, 744, 745, 746, 747, 120, 748, 749, 750, 751, 752, 753, 754, 755, 756, 757, 758, 759, 94, 503, 504, 505, 669, 670, 671, 672, 673, 674, 675, 676, 1101, 1102, 1103, 1104, 1105, 1106, 1107, 1108, 1109, 1110, 1111, 1112, 1113, 1114, 1115, 1116, 1117, 1118, 1119, 1120, 1121, 1122, 1123, 1124, 1125, 1126, 1127, 1128, 1129, 1130, 1131, 1132, 1133] rfl (by decide +kernel)
set_option maxRecDepth 100000 in
theorem gL_law_X8_best : GoodIn wsL_law (wsV RL 123 RX8 yX8_best wsX8_best) := goodIn_app (goodIn_r _ [904, 905, 906, 5] rfl (by decide +kernel)) ggL_law_X8_best
set_option maxRecDepth 100000 in
theorem ggL_law_X7_mean : GoodIn wsL_law wsX7_mean := goodIn_r _ [912, 15, 913, 486, 515, 914, 517, 518, 519, 14, 520, 35, 128, 2, 129, 127, 915, 916, 917, 918, 37, 41, 919, 920, 921, 922, 42, 40, 184, 304, 305, 694, 695, 696, 697, 698, 699, 700, 701, 702, 703, 182, 923, 924, 925, 1092, 1093, 1094, 1095, 1096, 1097, 1098, 1099, 1100, 1134, 1135, 1136, 1137, 1138, 1139, 1140, 1141, 1142, 1143, 1144, 1145, 1146, 1147, 1148, 1149, 1150, 1151] rfl (by decide +kernel)
set_option maxRecDepth 100000 in
theorem gL_law_X7_mean : GoodIn wsL_law (wsV RL 124 RX7 yX7_mean wsX7_mean) := goodIn_app (goodIn_r _ [909, 910, 911, 2] rfl (by decide +kernel)) ggL_law_X7_mean
set_option maxRecDepth 100000 in
theorem ggL_law_X8_mean : GoodIn wsL_law wsX8_mean := goodIn_r _ [929, 930, 119, 91, 94, 615, 529, 530, 531, 5, 532, 141, 142, 143, 931, 932, 933, 934, 738, 739, 740, 741, 742, 743, 744, 745, 746, 747, 120, 503, 504, 505, 935, 936, 937, 938, 939, 940, 1101, 1102, 1103, 1104, 1105, 1106, 1107, 1108, 1109, 1110, 1111, 1112, 1113, 1114, 1115, 1116, 1117, 1118, 1119, 1120, 1121, 1122, 1123, 1124, 1125, 1126, 1127, 1128, 1129, 1130, 1131, 1132, 1133] rfl (by decide +kernel)
set_option maxRecDepth 100000 in
theorem gL_law_X8_mean : GoodIn wsL_law (wsV RL 128 RX8 yX8_mean wsX8_mean) := goodIn_app (goodIn_r _ [926, 927, 928, 5] rfl (by decide +kernel)) ggL_law_X8_mean
set_option maxRecDepth 100000 in
theorem ggL_law_X7_luck : GoodIn wsL_law wsX7_luck := goodIn_r _ [944, 15, 913, 486, 517, 518, 519, 14, 520, 35, 128, 2, 129, 127, 945, 946, 947, 948, 42, 304, 305, 949, 950, 951, 952, 39, 41, 38, 919, 920, 921, 922, 40, 184, 694, 695, 696, 697, 698, 699, 700, 701, 702, 703, 182, 953, 916, 917, 918, 37, 923, 924, 925, 1092, 1093, 1094, 1095, 1096, 1097, 1098, 1099, 1100, 1134, 1135, 1136, 1137, 1138, 1139, 1140, 1141, 1142, 1143, 1144, 1145, 1146, 1147, 1148, 1149, 1150, 1151] rfl (by decide +kernel)
set_option maxRecDepth 100000 in
theorem gL_law_X7_luck : GoodIn wsL_law (wsV RL 129 RX7 yX7_luck wsX7_luck) := goodIn_app (goodIn_r _ [941, 942, 943, 2] rfl (by decide +kernel)) ggL_law_X7_luck
set_option maxRecDepth 100000 in
theorem ggL_law_X8_luck : GoodIn wsL_law wsX8_luck := goodIn_r _ [957, 930, 119, 615, 91, 94, 529, 530, 531, 5, 532, 141, 142, 143, 931, 932, 933, 934, 738, 739, 740, 741, 742, 743, 744, 745, 746, 747, 120, 503, 504, 505, 935, 936, 937, 938, 939, 940, 1101, 1102, 1103, 1104, 1105, 1106, 1107, 1108, 1109, 1110, 1111, 1112, 1113, 1114, 1115, 1116, 1117, 1118, 1119, 1120, 1121, 1122, 1123, 1124, 1125, 1126, 1127, 1128, 1129, 1130, 1131, 1132, 1133] rfl (by decide +kernel)
set_option maxRecDepth 100000 in
theorem gL_law_X8_luck : GoodIn wsL_law (wsV RL 132 RX8 yX8_luck wsX8_luck) := goodIn_app (goodIn_r _ [954, 955, 956, 5] rfl (by decide +kernel)) ggL_law_X8_luck
set_option maxRecDepth 100000 in
theorem ggL_law_X7_drift : GoodIn wsL_law wsX7_drift := goodIn_r _ [961, 16, 15, 962, 486, 963, 297, 298, 299, 496, 127, 128, 2, 129, 358, 359, 360, 14, 361, 35, 182, 183, 184, 37, 362, 363, 364, 365, 38, 39, 40, 41, 42, 43, 47, 52, 187, 188, 189, 190, 366, 367, 368, 46, 369, 342, 56, 370, 57, 58, 59, 371, 372, 373, 51, 374, 353, 63, 375, 64, 964, 965, 966, 967, 968, 969, 970, 971, 972, 518, 519, 520, 710, 339, 340, 341, 772, 689, 690, 691, 48, 185, 692, 693, 694, 695, 696, 697, 698, 699, 700, 701, 702, 703, 704, 705, 706, 707, 708, 709, 304, 305, 711, 712, 713, 714, 715, 716, 717, 718, 523, 524, 1092, 1093, 1094, 1095, 1096, 1097, 1098, 1099, 1100, 1134, 1135, 1136, 1137, 1138, 1139, 1140, 1141, 1142, 1143, 1144, 1145, 1146, 1147, 1148, 1149, 1150, 1151, 1170, 1171, 1172, 1173, 1174, 1175, 1176, 1177] rfl (by decide +kernel)
set_option maxRecDepth 100000 in
theorem gL_law_X7_drift : GoodIn wsL_law (wsV RL 133 RX7 yX7_drift wsX7_drift) := goodIn_app (goodIn_r _ [958, 959, 960, 2] rfl (by decide +kernel)) ggL_law_X7_drift
set_option maxRecDepth 100000 in
theorem ggL_law_X8_drift : GoodIn wsL_law wsX8_drift := goodIn_r _ [976, 723, 724, 92, 977, 119, 141, 142, 5, 143, 725, 726, 727, 728, 91, 733, 734, 735, 736, 737, 99, 738, 739, 740, 741, 742, 743, 744, 745, 746, 747, 120, 748, 749, 750, 751, 752, 753, 754, 755, 756, 757, 758, 759, 94, 503, 504, 505, 1101, 1102, 1103, 1104, 1105, 1106, 1107, 1108, 1109, 1110, 1111, 1112, 1113, 1114, 1115, 1116, 1117, 1118, 1119, 1120, 1121, 1122, 1123, 1124, 1125, 1126, 1127, 1128, 1129, 1130, 1131, 1132, 1133] rfl (by decide +kernel)
set_option maxRecDepth 100000 in
theorem gL_law_X8_drift : GoodIn wsL_law (wsV RL 136 RX8 yX8_drift wsX8_drift) := goodIn_app (goodIn_r _ [973, 974, 975, 5] rfl (by decide +kernel)) ggL_law_X8_drift
set_option maxRecDepth 100000 in
theorem ggL_law_X7_keep : GoodIn wsL_law wsX7_keep := goodIn_r _ [981, 158, 17, 15, 127, 128, 2, 129, 521, 304, 305, 358, 359, 360, 14, 361, 35, 182, 183, 184, 37, 362, 363, 364, 365, 38, 39, 40, 41, 42, 43, 47, 52, 187, 188, 189, 190, 366, 367, 368, 46, 369, 342, 56, 370, 57, 58, 59, 371, 372, 373, 51, 374, 353, 63, 375, 64, 590, 306, 307, 1092, 1093, 1094, 1095, 1096, 1097, 1098, 1099, 1100, 1134, 1135, 1136, 1137, 1138, 1139, 1140, 1141, 1142, 1143, 1144, 1145, 1146, 1147, 1148, 1149, 1150, 1151, 1170, 1171, 1172, 1173, 1174, 1175, 1176, 1177] rfl (by decide +kernel)
set_option maxRecDepth 100000 in
theorem gL_law_X7_keep : GoodIn wsL_law (wsV RL 137 RX7 yX7_keep wsX7_keep) := goodIn_app (goodIn_r _ [978, 979, 980, 2] rfl (by decide +kernel)) ggL_law_X7_keep
set_option maxRecDepth 100000 in
theorem ggL_law_X8_keep : GoodIn wsL_law wsX8_keep := goodIn_r _ [985, 93, 141, 142, 5, 143, 503, 504, 505, 986, 987, 988, 989, 91, 1101, 1102, 1103, 1104, 1105, 1106, 1107, 1108, 1109, 1110, 1111, 1112, 1113, 1114, 1115, 1116, 1117, 1118, 1119, 1120, 1121, 1122, 1123, 1124, 1125, 1126, 1127, 1128, 1129, 1130, 1131, 1132, 1133] rfl (by decide +kernel)
set_option maxRecDepth 100000 in
theorem gL_law_X8_keep : GoodIn wsL_law (wsV RL 140 RX8 yX8_keep wsX8_keep) := goodIn_app (goodIn_r _ [982, 983, 984, 5] rfl (by decide +kernel)) ggL_law_X8_keep
set_option maxRecDepth 100000 in
theorem ggL_law_X7_back : GoodIn wsL_law wsX7_back := goodIn_r _ [993, 158, 15, 17, 493, 127, 128, 2, 129, 521, 304, 305, 358, 359, 360, 14, 361, 35, 182, 183, 184, 37, 362, 363, 364, 365, 38, 39, 40, 41, 42, 43, 47, 52, 187, 188, 189, 190, 366, 367, 368, 46, 369, 342, 56, 370, 57, 58, 59, 371, 372, 373, 51, 374, 353, 63, 375, 64, 1092, 1093, 1094, 1095, 1096, 1097, 1098, 1099, 1100, 1134, 1135, 1136, 1137, 1138, 1139, 1140, 1141, 1142, 1143, 1144, 1145, 1146, 1147, 1148, 1149, 1150, 1151, 1170, 1171, 1172, 1173, 1174, 1175, 1176, 1177] rfl (by decide +kernel)
set_option maxRecDepth 100000 in
theorem gL_law_X7_back : GoodIn wsL_law (wsV RL 141 RX7 yX7_back wsX7_back) := goodIn_app (goodIn_r _ [990, 991, 992, 2] rfl (by decide +kernel)) ggL_law_X7_back
set_option maxRecDepth 100000 in
theorem ggL_law_X8_back : GoodIn wsL_law wsX8_back := goodIn_r _ [997, 93, 91, 141, 142, 5, 143, 986, 987, 988, 989, 1101, 1102, 1103, 1104, 1105, 1106, 1107, 1108, 1109, 1110, 1111, 1112, 1113, 1114, 1115, 1116, 1117, 1118, 1119, 1120, 1121, 1122, 1123, 1124, 1125, 1126, 1127, 1128, 1129, 1130, 1131, 1132, 1133] rfl (by decide +kernel)
set_option maxRecDepth 100000 in
theorem gL_law_X8_back : GoodIn wsL_law (wsV RL 144 RX8 yX8_back wsX8_back) := goodIn_app (goodIn_r _ [994, 995, 996, 5] rfl (by decide +kernel)) ggL_law_X8_back
set_option maxRecDepth 100000 in
theorem ggL_law_X7_sheet : GoodIn wsL_law wsX7_sheet := goodIn_r _ [1001, 29, 1002, 1003, 2, 1004, 127, 128, 129, 1005, 1006, 1007, 1008, 1009, 1010, 31, 1011, 85, 1012, 86, 1092, 1093, 1094, 1095, 1096, 1097, 1098, 1099, 1100, 1167, 1168, 1169] rfl (by decide +kernel)
set_option maxRecDepth 100000 in
theorem gL_law_X7_sheet : GoodIn wsL_law (wsV RL 145 RX7 yX7_sheet wsX7_sheet) := goodIn_app (goodIn_r _ [998, 999, 1000, 2] rfl (by decide +kernel)) ggL_law_X7_sheet
set_option maxRecDepth 100000 in
theorem ggL_law_X8_sheet : GoodIn wsL_law wsX8_sheet := goodIn_r _ [1016, 102, 103, 104, 1017, 1018, 5, 1019, 562, 1020, 141, 142, 143, 1101, 1102, 1103, 1104, 1105, 1106, 1107, 1108, 1109, 1110, 1111, 1112, 1113, 1114, 1115, 1116, 1117, 1118, 1119, 1120, 1121, 1122, 1123, 1124, 1125, 1126, 1127, 1128, 1129, 1130, 1131, 1132, 1133] rfl (by decide +kernel)
set_option maxRecDepth 100000 in
theorem gL_law_X8_sheet : GoodIn wsL_law (wsV RL 148 RX8 yX8_sheet wsX8_sheet) := goodIn_app (goodIn_r _ [1013, 1014, 1015, 5] rfl (by decide +kernel)) ggL_law_X8_sheet
set_option maxRecDepth 100000 in
theorem ggL_law_X7_lay : GoodIn wsL_law wsX7_lay := goodIn_r _ [1024, 29, 1002, 1003, 2, 1004, 127, 128, 129, 1025, 1026, 1027, 31, 1028, 1012, 1029, 1030, 1031, 1032, 85, 1033, 1034, 1035, 1036, 86, 1092, 1093, 1094, 1095, 1096, 1097, 1098, 1099, 1100, 1167, 1168, 1169] rfl (by decide +kernel)
set_option maxRecDepth 100000 in
theorem gL_law_X7_lay : GoodIn wsL_law (wsV RL 149 RX7 yX7_lay wsX7_lay) := goodIn_app (goodIn_r _ [1021, 1022, 1023, 2] rfl (by decide +kernel)) ggL_law_X7_lay
set_option maxRecDepth 100000 in
theorem ggL_law_X8_lay : GoodIn wsL_law wsX8_lay := goodIn_r _ [1040, 102, 103, 104, 1017, 1018, 5, 1019, 562, 1020, 141, 142, 143, 1101, 1102, 1103, 1104, 1105, 1106, 1107, 1108, 1109, 1110, 1111, 1112, 1113, 1114, 1115, 1116, 1117, 1118, 1119, 1120, 1121, 1122, 1123, 1124, 1125, 1126, 1127, 1128, 1129, 1130, 1131, 1132, 1133] rfl (by decide +kernel)
set_option maxRecDepth 100000 in
theorem gL_law_X8_lay : GoodIn wsL_law (wsV RL 152 RX8 yX8_lay wsX8_lay) := goodIn_app (goodIn_r _ [1037, 1038, 1039, 5] rfl (by decide +kernel)) ggL_law_X8_lay
set_option maxRecDepth 100000 in
theorem ggL_law_X7_read : GoodIn wsL_law wsX7_read := goodIn_r _ [1044, 29, 15, 489, 490, 1045, 1046, 1002, 1003, 2, 1004, 127, 128, 129, 1005, 1006, 1007, 1047, 1048, 1049, 31, 1050, 85, 1029, 1030, 1031, 1032, 1025, 1026, 1027, 1028, 1012, 1051, 1052, 1053, 1054, 1055, 621, 622, 623, 517, 518, 519, 14, 520, 35, 607, 608, 609, 624, 336, 337, 542, 543, 544, 545, 183, 625, 339, 340, 46, 341, 342, 56, 57, 58, 59, 1092, 1093, 1094, 1095, 1096, 1097, 1098, 1099, 1100, 1134, 1135, 1136, 1137, 1138, 1139, 1140, 1141, 1142, 1143, 1144, 1145, 1146, 1147, 1148, 1149, 1150, 1151, 1170, 1171, 1172, 1173, 1174, 1167, 1168, 1169] rfl (by decide +kernel)
set_option maxRecDepth 100000 in
theorem gL_law_X7_read : GoodIn wsL_law (wsV RL 153 RX7 yX7_read wsX7_read) := goodIn_app (goodIn_r _ [1041, 1042, 1043, 2] rfl (by decide +kernel)) ggL_law_X7_read
set_option maxRecDepth 100000 in
theorem ggL_law_X8_read : GoodIn wsL_law wsX8_read := goodIn_r _ [1059, 615, 91, 102, 103, 104, 1060, 1017, 1018, 5, 1019, 562, 1020, 141, 142, 143, 1061, 627, 628, 629, 529, 530, 531, 532, 119, 616, 617, 618, 619, 630, 631, 632, 533, 534, 535, 536, 121, 1101, 1102, 1103, 1104, 1105, 1106, 1107, 1108, 1109, 1110, 1111, 1112, 1113, 1114, 1115, 1116, 1117, 1118, 1119, 1120, 1121, 1122, 1123, 1124, 1125, 1126, 1127, 1128, 1129, 1130, 1131, 1132, 1133] rfl (by decide +kernel)
set_option maxRecDepth 100000 in
theorem gL_law_X8_read : GoodIn wsL_law (wsV RL 156 RX8 yX8_read wsX8_read) := goodIn_app (goodIn_r _ [1056, 1057, 1058, 5] rfl (by decide +kernel)) ggL_law_X8_read
set_option maxRecDepth 100000 in
theorem ggL_law_X7_torn : GoodIn wsL_law wsX7_torn := goodIn_r _ [1065, 1046, 1092, 1093, 1094, 1095, 1096, 1097, 1098, 1099, 1100] rfl (by decide +kernel)
set_option maxRecDepth 100000 in
theorem gL_law_X7_torn : GoodIn wsL_law (wsV RL 157 RX7 yX7_torn wsX7_torn) := goodIn_app (goodIn_r _ [1062, 1063, 1064, 2] rfl (by decide +kernel)) ggL_law_X7_torn
set_option maxRecDepth 100000 in
theorem ggL_law_X8_torn : GoodIn wsL_law wsX8_torn := goodIn_r _ [1069, 1060, 1101, 1102, 1103, 1104, 1105, 1106, 1107, 1108, 1109, 1110, 1111, 1112, 1113, 1114, 1115, 1116, 1117, 1118, 1119, 1120, 1121, 1122, 1123, 1124, 1125, 1126, 1127, 1128, 1129, 1130, 1131, 1132, 1133] rfl (by decide +kernel)
set_option maxRecDepth 100000 in
theorem gL_law_X8_torn : GoodIn wsL_law (wsV RL 160 RX8 yX8_torn wsX8_torn) := goodIn_app (goodIn_r _ [1066, 1067, 1068, 5] rfl (by decide +kernel)) ggL_law_X8_torn
set_option maxRecDepth 100000 in
theorem ggL_law_X7_count : GoodIn wsL_law wsX7_count := goodIn_r _ [1073, 15, 512, 158, 23, 126, 29, 1074, 489, 1075, 1076, 1077, 14, 1078, 43, 1079, 1080, 1081, 1082, 35, 38, 658, 659, 660, 661, 662, 663, 664, 1083, 1030, 1031, 31, 1032, 85, 1084, 1085, 1086, 46, 1087, 342, 58, 1092, 1093, 1094, 1095, 1096, 1097, 1098, 1099, 1100, 1134, 1135, 1136, 1137, 1138, 1139, 1140, 1141, 1142, 1143, 1144, 1145, 1146, 1147, 1148, 1149, 1150, 1151, 1178, 1179, 1167, 1168, 1169, 1170, 1171, 1172, 1173, 1174] rfl (by decide +kernel)
set_option maxRecDepth 100000 in
theorem gL_law_X7_count : GoodIn wsL_law (wsV RL 161 RX7 yX7_count wsX7_count) := goodIn_app (goodIn_r _ [1070, 1071, 1072, 2] rfl (by decide +kernel)) ggL_law_X7_count
set_option maxRecDepth 100000 in
theorem ggL_law_X8_count : GoodIn wsL_law wsX8_count := goodIn_r _ [1091, 91, 119, 93, 140, 102, 103, 503, 504, 5, 505, 838, 839, 840, 841, 677, 678, 679, 1101, 1102, 1103, 1104, 1105, 1106, 1107, 1108, 1109, 1110, 1111, 1112, 1113, 1114, 1115, 1116, 1117, 1118, 1119, 1120, 1121, 1122, 1123, 1124, 1125, 1126, 1127, 1128, 1129, 1130, 1131, 1132, 1133] rfl (by decide +kernel)
set_option maxRecDepth 100000 in
theorem gL_law_X8_count : GoodIn wsL_law (wsV RL 164 RX8 yX8_count wsX8_count) := goodIn_app (goodIn_r _ [1088, 1089, 1090, 5] rfl (by decide +kernel)) ggL_law_X8_count
