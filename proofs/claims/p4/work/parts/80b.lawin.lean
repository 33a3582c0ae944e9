theorem zin_at {big : List Cond} : ∀ (ws : List Cond) (ps : List Nat), ws.map some = ps.map (fun i => big[i]?) → ∀ w ∈ ws, w ∈ big
  | [], _, _, _, h => by cases h
  | w :: ws, [], h, _, _ => by cases h
  | w :: ws, i :: ps, h, x, hx => by
    rw [List.map_cons, List.map_cons] at h
    have h := List.cons.inj h
    rcases List.mem_cons.mp hx with e | e
    · subst e
      exact List.mem_of_getElem? h.1.symm
    · exact zin_at ws ps h.2 x e
set_option maxRecDepth 20000 in
theorem in_wsL_law_r1 : ∀ w ∈ wsL_law_r1, w ∈ lw_tbl := zin_at _ [87, 88, 71, 906, 907, 79, 89, 90, 91, 92, 93, 94, 95, 96, 72, 342, 343, 344, 243, 244, 75, 345, 266, 346] rfl
set_option maxRecDepth 20000 in
theorem in_wsL_law_r2 : ∀ w ∈ wsL_law_r2, w ∈ lw_tbl := zin_at _ [309, 310, 77, 347, 323, 348, 325, 78, 98, 99, 100, 159, 134, 170, 172, 175, 181, 183, 185, 187, 101, 102, 73, 189] rfl
set_option maxRecDepth 20000 in
theorem in_wsL_law_r3 : ∀ w ∈ wsL_law_r3, w ∈ lw_tbl := zin_at _ [192, 135, 136, 74, 193, 104, 105, 106, 111, 114, 117, 120, 138, 139, 140, 146, 149, 246, 247, 248, 249, 250, 76, 265] rfl
set_option maxRecDepth 20000 in
theorem in_wsL_law_r4 : ∀ w ∈ wsL_law_r4, w ∈ lw_tbl := zin_at _ [252, 253, 254, 258, 312, 313, 314, 322, 315, 316, 327, 328, 329, 330, 333, 908, 909, 910, 911, 920, 921, 922, 926, 927] rfl
set_option maxRecDepth 20000 in
theorem in_wsL_law_r5 : ∀ w ∈ wsL_law_r5, w ∈ lw_tbl := zin_at _ [932, 933, 936, 944, 947, 948, 949, 950, 951, 912, 914, 25, 915, 928, 929, 930, 931, 934, 935, 916, 918, 26, 919, 923] rfl
set_option maxRecDepth 20000 in
theorem in_wsL_law_r6 : ∀ w ∈ wsL_law_r6, w ∈ lw_tbl := zin_at _ [924, 925, 370, 371, 372, 373, 256, 374, 375, 376, 377, 378, 379, 380, 255, 1020, 1021, 1022, 1023, 1024, 937, 1025, 1026, 1027] rfl
set_option maxRecDepth 20000 in
theorem in_wsL_law_r7 : ∀ w ∈ wsL_law_r7, w ∈ lw_tbl := zin_at _ [381, 382, 383, 384, 1028, 1029, 1030, 1031, 385, 386, 387, 388, 271, 273, 349, 275, 389, 390, 391, 392, 267, 270, 272, 274] rfl
set_option maxRecDepth 20000 in
theorem in_wsL_law_r8 : ∀ w ∈ wsL_law_r8, w ∈ lw_tbl := zin_at _ [276, 277, 278, 279, 280, 281, 268, 161, 166, 257, 393, 394, 395, 396, 163, 167, 178, 108, 143, 197, 199, 201, 203, 397] rfl
set_option maxRecDepth 20000 in
theorem in_wsL_law_r9 : ∀ w ∈ wsL_law_r9, w ∈ lw_tbl := zin_at _ [398, 399, 400, 401, 403, 0, 404, 259, 269, 405, 406, 407, 408, 410, 1, 411, 412, 414, 2, 415, 417, 419, 3, 420] rfl
set_option maxRecDepth 20000 in
theorem in_wsL_law_r10 : ∀ w ∈ wsL_law_r10, w ∈ lw_tbl := zin_at _ [421, 422, 423, 80, 424, 1385, 425, 426, 427, 428, 429, 1386, 431, 432, 433, 434, 435, 436, 437, 438, 439, 440, 81, 441] rfl
set_option maxRecDepth 20000 in
theorem in_wsL_law_r11 : ∀ w ∈ wsL_law_r11, w ∈ lw_tbl := zin_at _ [442, 443, 444, 445, 447, 448, 82, 449, 450, 451, 83, 452, 453, 454, 455, 456, 457, 458, 459, 460, 461, 462, 463, 465] rfl
set_option maxRecDepth 20000 in
theorem in_wsL_law_r12 : ∀ w ∈ wsL_law_r12, w ∈ lw_tbl := zin_at _ [467, 469, 471, 4, 472, 164, 473, 475, 5, 476, 477, 479, 6, 480, 484, 486, 7, 487, 488, 489, 490, 491, 493, 495] rfl
set_option maxRecDepth 20000 in
theorem in_wsL_law_r13 : ∀ w ∈ wsL_law_r13, w ∈ lw_tbl := zin_at _ [8, 496, 173, 177, 497, 499, 9, 500, 501, 502, 84, 503, 504, 506, 10, 507, 509, 510, 512, 513, 514, 516, 11, 517] rfl
set_option maxRecDepth 20000 in
theorem in_wsL_law_r14 : ∀ w ∈ wsL_law_r14, w ∈ lw_tbl := zin_at _ [519, 521, 12, 522, 180, 524, 526, 13, 527, 528, 530, 14, 531, 537, 539, 15, 540, 541, 543, 545, 16, 546, 191, 110] rfl
set_option maxRecDepth 20000 in
theorem in_wsL_law_r15 : ∀ w ∈ wsL_law_r15, w ∈ lw_tbl := zin_at _ [548, 549, 550, 551, 552, 553, 107, 555, 557, 17, 558, 196, 145, 559, 560, 561, 562, 141, 563, 565, 18, 566, 567, 568] rfl
set_option maxRecDepth 20000 in
theorem in_wsL_law_r16 : ∀ w ∈ wsL_law_r16, w ∈ lw_tbl := zin_at _ [569, 570, 571, 573, 572, 85, 574, 575, 576, 577, 578, 579, 580, 581, 582, 583, 1032, 1033, 1034, 1035, 942, 938, 940, 943] rfl
set_option maxRecDepth 20000 in
theorem in_wsL_law_r17 : ∀ w ∈ wsL_law_r17, w ∈ lw_tbl := zin_at _ [1036, 1038, 27, 1039, 939, 1044, 1045, 1046, 1047, 941, 1040, 1042, 28, 1043, 1048, 1050, 29, 1051, 1052, 1054, 30, 1055, 1056, 1058] rfl
set_option maxRecDepth 20000 in
theorem in_wsL_law_r18 : ∀ w ∈ wsL_law_r18, w ∈ lw_tbl := zin_at _ [31, 1059, 1060, 1062, 32, 1063, 1064, 1066, 33, 1067, 1068, 1070, 34, 1071, 1072, 1074, 35, 1075, 1076, 1078, 36, 1079, 1080, 1082] rfl
set_option maxRecDepth 20000 in
theorem in_wsL_law_r19 : ∀ w ∈ wsL_law_r19, w ∈ lw_tbl := zin_at _ [37, 1083, 1084, 1086, 38, 1087, 1088, 1090, 39, 1091, 1092, 1094, 40, 1095, 1096, 1098, 41, 1099, 1100, 1102, 42, 1103, 1104, 1106] rfl
set_option maxRecDepth 20000 in
theorem in_wsL_law_r20 : ∀ w ∈ wsL_law_r20, w ∈ lw_tbl := zin_at _ [43, 1107, 1108, 1110, 44, 1111, 1112, 1114, 45, 1115, 1116, 1118, 46, 1119, 1120, 1122, 47, 1123, 585, 586, 587, 588, 1124, 1125] rfl
set_option maxRecDepth 20000 in
theorem in_wsL_law_r21 : ∀ w ∈ wsL_law_r21, w ∈ lw_tbl := zin_at _ [1126, 1127, 589, 590, 591, 592, 162, 165, 169, 190, 109, 195, 144, 198, 200, 202, 204, 1128, 1129, 1130, 1131, 1135, 1136, 1132] rfl
set_option maxRecDepth 20000 in
theorem in_wsL_law_r22 : ∀ w ∈ wsL_law_r22, w ∈ lw_tbl := zin_at _ [1133, 1134, 593, 594, 595, 596, 174, 176, 179, 182, 184, 186, 188, 597, 598, 599, 600, 602, 603, 604, 605, 1137, 1138, 1139] rfl
set_option maxRecDepth 20000 in
theorem in_wsL_law_r23 : ∀ w ∈ wsL_law_r23, w ∈ lw_tbl := zin_at _ [1140, 1141, 1143, 48, 1144, 1145, 1147, 49, 1148, 606, 607, 608, 609, 171, 610, 611, 612, 613, 1149, 1150, 1151, 1152, 614, 615] rfl
set_option maxRecDepth 20000 in
theorem in_wsL_law_r24 : ∀ w ∈ wsL_law_r24, w ∈ lw_tbl := zin_at _ [616, 617, 112, 115, 118, 121, 1153, 1154, 1155, 1156, 1157, 618, 619, 620, 621, 148, 151, 1158, 1159, 1160, 1161, 622, 623, 624] rfl
set_option maxRecDepth 20000 in
theorem in_wsL_law_r25 : ∀ w ∈ wsL_law_r25, w ∈ lw_tbl := zin_at _ [625, 1162, 1163, 1164, 1165, 1166, 1167, 1169, 50, 1170, 626, 627, 628, 629, 630, 1171, 1172, 1173, 1174, 631, 632, 633, 634, 1175] rfl
set_option maxRecDepth 20000 in
theorem in_wsL_law_r26 : ∀ w ∈ wsL_law_r26, w ∈ lw_tbl := zin_at _ [1176, 1177, 1178, 635, 636, 637, 638, 639, 640, 641, 642, 1179, 1180, 1181, 1182, 1187, 1183, 1184, 1185, 1186, 643, 644, 645, 646] rfl
set_option maxRecDepth 20000 in
theorem in_wsL_law_r27 : ∀ w ∈ wsL_law_r27, w ∈ lw_tbl := zin_at _ [647, 648, 1188, 1189, 1190, 1191, 1192, 1193, 1194, 649, 650, 651, 652, 653, 1195, 1196, 1197, 1198, 654, 655, 656, 657, 1199, 1200] rfl
set_option maxRecDepth 20000 in
theorem in_wsL_law_r28 : ∀ w ∈ wsL_law_r28, w ∈ lw_tbl := zin_at _ [1201, 1202, 658, 659, 660, 661, 662, 663, 664, 665, 666, 667, 86, 668, 669, 670, 671, 1203, 1204, 1205, 1206, 1207, 1209, 51] rfl
set_option maxRecDepth 20000 in
theorem in_wsL_law_r29 : ∀ w ∈ wsL_law_r29, w ∈ lw_tbl := zin_at _ [1210, 1211, 1213, 52, 1214, 1215, 1216, 1217, 672, 673, 674, 675, 676, 677, 678, 679, 680, 681, 682, 683, 116, 113, 684, 685] rfl
set_option maxRecDepth 20000 in
theorem in_wsL_law_r30 : ∀ w ∈ wsL_law_r30, w ∈ lw_tbl := zin_at _ [686, 687, 688, 689, 690, 691, 692, 693, 694, 696, 19, 697, 119, 122, 699, 700, 702, 20, 703, 705, 706, 707, 708, 1218] rfl
set_option maxRecDepth 20000 in
theorem in_wsL_law_r31 : ∀ w ∈ wsL_law_r31, w ∈ lw_tbl := zin_at _ [1219, 1220, 1221, 1222, 946, 1223, 1225, 53, 1226, 1227, 1229, 54, 1230, 1231, 1233, 55, 1234, 945, 1235, 1236, 1237, 1238, 1239, 1240] rfl
set_option maxRecDepth 20000 in
theorem in_wsL_law_r32 : ∀ w ∈ wsL_law_r32, w ∈ lw_tbl := zin_at _ [1241, 1243, 56, 1244, 1245, 1247, 57, 1248, 1249, 1251, 58, 1252, 1253, 1255, 59, 1256, 709, 710, 711, 712, 1257, 1258, 1259, 1260] rfl
set_option maxRecDepth 20000 in
theorem in_wsL_law_r33 : ∀ w ∈ wsL_law_r33, w ∈ lw_tbl := zin_at _ [713, 714, 715, 716, 717, 1261, 1262, 1263, 1264, 718, 719, 720, 721, 722, 723, 724, 725, 160, 747, 727, 728, 729, 730, 731] rfl
set_option maxRecDepth 20000 in
theorem in_wsL_law_r34 : ∀ w ∈ wsL_law_r34, w ∈ lw_tbl := zin_at _ [168, 194, 142, 150, 147, 732, 733, 734, 735, 736, 738, 21, 739, 740, 742, 22, 743, 748, 749, 750, 751, 752, 753, 754] rfl
set_option maxRecDepth 20000 in
theorem in_wsL_law_r35 : ∀ w ∈ wsL_law_r35, w ∈ lw_tbl := zin_at _ [1265, 1266, 1267, 1268, 1269, 1294, 1270, 1272, 60, 1273, 1274, 1276, 61, 1277, 1278, 1280, 62, 1281, 1282, 1284, 63, 1285, 1286, 1288] rfl
set_option maxRecDepth 20000 in
theorem in_wsL_law_r36 : ∀ w ∈ wsL_law_r36, w ∈ lw_tbl := zin_at _ [64, 1289, 1290, 1292, 65, 1293, 755, 756, 757, 758, 759, 760, 761, 762, 1295, 1296, 1297, 1298, 763, 764, 765, 766, 767, 1299] rfl
set_option maxRecDepth 20000 in
theorem in_wsL_law_r37 : ∀ w ∈ wsL_law_r37, w ∈ lw_tbl := zin_at _ [1300, 1301, 1302, 768, 769, 770, 771, 772, 773, 774, 775, 1303, 1304, 1305, 1306, 1307, 1309, 66, 1310, 1311, 1313, 67, 1314, 776] rfl
set_option maxRecDepth 20000 in
theorem in_wsL_law_r38 : ∀ w ∈ wsL_law_r38, w ∈ lw_tbl := zin_at _ [777, 778, 779, 780, 781, 782, 783, 784, 1315, 1316, 1317, 1318, 785, 786, 787, 788, 1319, 1320, 1321, 1322, 1323, 789, 790, 791] rfl
set_option maxRecDepth 20000 in
theorem in_wsL_law_r39 : ∀ w ∈ wsL_law_r39, w ∈ lw_tbl := zin_at _ [792, 793, 802, 794, 795, 796, 797, 798, 800, 23, 801, 803, 804, 805, 1324, 1325, 1326, 1327, 1328, 1329, 1331, 68, 1332, 1333] rfl
set_option maxRecDepth 20000 in
theorem in_wsL_law_r40 : ∀ w ∈ wsL_law_r40, w ∈ lw_tbl := zin_at _ [1334, 1335, 1336, 1337, 1338, 806, 807, 808, 809, 810, 811, 812, 813, 814, 815, 816, 817, 818, 1339, 1340, 1341, 1342, 819, 820] rfl
set_option maxRecDepth 20000 in
theorem in_wsL_law_r41 : ∀ w ∈ wsL_law_r41, w ∈ lw_tbl := zin_at _ [821, 822, 823, 824, 825, 826, 84, 827, 828, 829, 830, 831, 832, 1343, 1344, 1345, 1346, 1347, 833, 834, 835, 836, 1348, 1349] rfl
set_option maxRecDepth 20000 in
theorem in_wsL_law_r42 : ∀ w ∈ wsL_law_r42, w ∈ lw_tbl := zin_at _ [1350, 1351, 1352, 1354, 69, 1355, 837, 838, 839, 840, 1356, 1357, 1358, 1359, 841, 842, 843, 844, 845, 846, 847, 848, 849, 850] rfl
set_option maxRecDepth 20000 in
theorem in_wsL_law_r43 : ∀ w ∈ wsL_law_r43, w ∈ lw_tbl := zin_at _ [851, 852, 853, 854, 331, 1360, 1361, 1362, 1363, 1364, 1365, 1366, 1367, 855, 856, 857, 858, 859, 860, 861, 862, 863, 864, 865] rfl
set_option maxRecDepth 20000 in
theorem in_wsL_law_r44 : ∀ w ∈ wsL_law_r44, w ∈ lw_tbl := zin_at _ [866, 868, 869, 870, 871, 1368, 1369, 1370, 1371, 872, 873, 874, 875, 334, 350, 876, 877, 878, 879, 880, 882, 24, 883, 884] rfl
set_option maxRecDepth 20000 in
theorem in_wsL_law_r45 : ∀ w ∈ wsL_law_r45, w ∈ lw_tbl := zin_at _ [1372, 1373, 1374, 1375, 952, 1376, 885, 886, 887, 888, 1377, 1378, 1379, 1380, 889, 890, 891, 892, 332, 893, 894, 895, 896, 897] rfl
set_option maxRecDepth 20000 in
theorem in_wsL_law_r46 : ∀ w ∈ wsL_law_r46, w ∈ lw_tbl := zin_at _ [898, 899, 900, 901, 902, 903, 904, 905, 1381, 1382, 1383, 1384] rfl
set_option maxRecDepth 20000 in
theorem inX0 : ∀ w ∈ wsX00, w ∈ lw_tbl := by decide +kernel
set_option maxRecDepth 20000 in
theorem inX1 : ∀ w ∈ wsX10, w ∈ lw_tbl := by decide +kernel
set_option maxRecDepth 20000 in
theorem inX2 : ∀ w ∈ wsX20, w ∈ lw_tbl := by decide +kernel
set_option maxRecDepth 20000 in
theorem inX3 : ∀ w ∈ wsX30, w ∈ lw_tbl := by decide +kernel
set_option maxRecDepth 20000 in
theorem inX4 : ∀ w ∈ wsX40, w ∈ lw_tbl := by decide +kernel
set_option maxRecDepth 20000 in
theorem inX5 : ∀ w ∈ wsX50, w ∈ lw_tbl := by decide +kernel
set_option maxRecDepth 20000 in
theorem inX6 : ∀ w ∈ wsX60, w ∈ lw_tbl := by decide +kernel
set_option maxRecDepth 20000 in
theorem inX7 : ∀ w ∈ wsX70, w ∈ lw_tbl := by decide +kernel
set_option maxRecDepth 20000 in
theorem inX8 : ∀ w ∈ wsX80, w ∈ lw_tbl := by decide +kernel
theorem wsL_law_in : ∀ w ∈ wsL_law, w ∈ lw_tbl := List.forall_mem_append.mpr ⟨List.forall_mem_append.mpr ⟨List.forall_mem_append.mpr ⟨List.forall_mem_append.mpr ⟨List.forall_mem_append.mpr ⟨List.forall_mem_append.mpr ⟨List.forall_mem_append.mpr ⟨List.forall_mem_append.mpr ⟨List.forall_mem_append.mpr ⟨List.forall_mem_append.mpr ⟨List.forall_mem_append.mpr ⟨in_wsL_law_r1, List.forall_mem_append.mpr ⟨in_wsL_law_r2, List.forall_mem_append.mpr ⟨in_wsL_law_r3, List.forall_mem_append.mpr ⟨in_wsL_law_r4, List.forall_mem_append.mpr ⟨in_wsL_law_r5, List.forall_mem_append.mpr ⟨in_wsL_law_r6, List.forall_mem_append.mpr ⟨in_wsL_law_r7, List.forall_mem_append.mpr ⟨in_wsL_law_r8, List.forall_mem_append.mpr ⟨in_wsL_law_r9, List.forall_mem_append.mpr ⟨in_wsL_law_r10, List.forall_mem_append.mpr ⟨in_wsL_law_r11, List.forall_mem_append.mpr ⟨in_wsL_law_r12, List.forall_mem_append.mpr ⟨in_wsL_law_r13, List.forall_mem_append.mpr ⟨in_wsL_law_r14, List.forall_mem_append.mpr ⟨in_wsL_law_r15, List.forall_mem_append.mpr ⟨in_wsL_law_r16, List.forall_mem_append.mpr ⟨in_wsL_law_r17, List.forall_mem_append.mpr ⟨in_wsL_law_r18, List.forall_mem_append.mpr ⟨in_wsL_law_r19, List.forall_mem_append.mpr ⟨in_wsL_law_r20, List.forall_mem_append.mpr ⟨in_wsL_law_r21, List.forall_mem_append.mpr ⟨in_wsL_law_r22, List.forall_mem_append.mpr ⟨in_wsL_law_r23, List.forall_mem_append.mpr ⟨in_wsL_law_r24, List.forall_mem_append.mpr ⟨in_wsL_law_r25, List.forall_mem_append.mpr ⟨in_wsL_law_r26, List.forall_mem_append.mpr ⟨in_wsL_law_r27, List.forall_mem_append.mpr ⟨in_wsL_law_r28, List.forall_mem_append.mpr ⟨in_wsL_law_r29, List.forall_mem_append.mpr ⟨in_wsL_law_r30, List.forall_mem_append.mpr ⟨in_wsL_law_r31, List.forall_mem_append.mpr ⟨in_wsL_law_r32, List.forall_mem_append.mpr ⟨in_wsL_law_r33, List.forall_mem_append.mpr ⟨in_wsL_law_r34, List.forall_mem_append.mpr ⟨in_wsL_law_r35, List.forall_mem_append.mpr ⟨in_wsL_law_r36, List.forall_mem_append.mpr ⟨in_wsL_law_r37, List.forall_mem_append.mpr ⟨in_wsL_law_r38, List.forall_mem_append.mpr ⟨in_wsL_law_r39, List.forall_mem_append.mpr ⟨in_wsL_law_r40, List.forall_mem_append.mpr ⟨in_wsL_law_r41, List.forall_mem_append.mpr ⟨in_wsL_law_r42, List.forall_mem_append.mpr ⟨in_wsL_law_r43, List.forall_mem_append.mpr ⟨in_wsL_law_r44, List.forall_mem_append.mpr ⟨in_wsL_law_r45, in_wsL_law_r46⟩⟩⟩⟩⟩⟩⟩⟩⟩⟩⟩⟩⟩⟩⟩⟩⟩⟩⟩⟩⟩⟩⟩⟩⟩⟩⟩⟩⟩⟩⟩⟩⟩⟩⟩⟩⟩⟩⟩⟩⟩⟩⟩⟩⟩, inX7⟩, inX8⟩, inX4⟩, inX1⟩, inX0⟩, inX2⟩, inX5⟩, inX6⟩, inX3⟩, fun _ h => absurd h List.not_mem_nil⟩
