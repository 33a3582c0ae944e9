section
set_option maxRecDepth 100000 in
theorem yg_wsX7_init : wsX7_init.all goodWord = true := by decide +kernel
noncomputable def yC_wsL_law : List (List Cond) := [wsL_law_r1, wsL_law_r2, wsL_law_r3, wsL_law_r4, wsL_law_r5, wsL_law_r6, wsL_law_r7, wsL_law_r8, wsL_law_r9, wsL_law_r10, wsL_law_r11, wsL_law_r12, wsL_law_r13, wsL_law_r14, wsL_law_r15, wsL_law_r16, wsL_law_r17, wsL_law_r18, wsL_law_r19, wsL_law_r20, wsL_law_r21, wsL_law_r22, wsL_law_r23, wsL_law_r24, wsL_law_r25, wsL_law_r26, wsL_law_r27, wsL_law_r28, wsL_law_r29, wsL_law_r30, wsL_law_r31, wsL_law_r32, wsL_law_r33, wsL_law_r34, wsL_law_r35, wsL_law_r36, wsL_law_r37, wsL_law_r38, wsL_law_r39, wsL_law_r40, wsL_law_r41, wsL_law_r42, wsL_law_r43, wsL_law_r44, wsL_law_r45, wsL_law_r46, wsX70, wsX80, wsX40, wsX10, wsX00, wsX20, wsX50, wsX60, wsX30, []]
set_option maxRecDepth 100000 in
theorem yCe_wsL_law : wsL_law = yC_wsL_law.flatten := rfl
set_option maxRecDepth 100000 in
theorem ggL_law_X7_init : GoodIn wsL_law wsX7_init := ygc yCe_wsL_law _ [8, 9, 10, 11, 12, 13, 14, 15, 16, 17, 18, 19, 20, 21, 22, 23, 256, 257, 258, 259, 260, 261, 262, 263, 264, 265, 266, 267, 268, 269, 270, 271, 272, 273, 274, 275, 276, 277, 278, 279, 512, 513, 514, 515, 516, 517, 518, 519, 520, 521, 522, 523, 524, 525, 526, 527, 528, 529, 530, 531, 532, 533, 534, 535, 768, 769, 770, 771, 772, 773, 774, 775, 776, 777, 778, 779, 780, 781, 782, 12288, 12289, 12290, 12291, 12292, 12293, 12294, 12295, 12296, 12297, 12298, 12299, 12300, 12301, 12302, 12303, 12304, 12305, 11776, 11777, 11778, 11779, 11780, 11781, 11782, 11783, 11784, 12544, 12545, 12546, 12547, 12548, 12549, 12550, 12551, 12552, 12553, 12554, 12555, 12556, 12800, 12801, 13056, 13057, 13058, 13312, 13313, 13314, 13315, 13316, 13568, 13569, 13570, 13824, 13825] rfl yg_wsX7_init
set_option maxRecDepth 100000 in
theorem gL_law_X7_init : GoodIn wsL_law (wsX7_init) := ggL_law_X7_init
set_option maxRecDepth 100000 in
theorem yg_wsX8_init : wsX8_init.all goodWord = true := by decide +kernel
set_option maxRecDepth 100000 in
theorem ggL_law_X8_init : GoodIn wsL_law wsX8_init := ygc yCe_wsL_law _ [785, 786, 10, 11, 268, 787, 788, 775, 789, 790, 791, 1024, 1025, 1026, 1027, 1028, 1029, 1030, 1031, 1032, 1033, 1034, 1035, 5, 1036, 1037, 1038, 1039, 1040, 1041, 1042, 1043, 1044, 1045, 1046, 1047, 1280, 1281, 12032, 12033, 12034, 12035, 12036, 12037, 12038, 12039, 12040, 12041, 12042, 12043, 12044, 12045, 12046, 12047, 12048, 12049, 12050, 12051, 12052, 12053, 12054, 12055, 12056, 12057, 12058, 12059, 12060, 12061, 12062, 12063, 12064] rfl yg_wsX8_init
set_option maxRecDepth 100000 in
theorem gL_law_X8_init : GoodIn wsL_law (wsX8_init) := ggL_law_X8_init
set_option maxRecDepth 100000 in
theorem yg_wsX7_feed : wsX7_feed.all goodWord = true := by decide +kernel
set_option maxRecDepth 100000 in
theorem ggL_law_X7_feed : GoodIn wsL_law wsX7_feed := ygc yCe_wsL_law _ [1285, 23, 1286, 1287, 1288, 2, 1289, 1290, 1291, 1292, 534, 1293, 1294, 771, 11776, 11777, 11778, 11779, 11780, 11781, 11782, 11783, 11784, 13824, 13825] rfl yg_wsX7_feed
set_option maxRecDepth 100000 in
theorem gL_law_X7_feed : GoodIn wsL_law (wsV RL 13 RX7 yX7_feed wsX7_feed) := goodIn_app (ygc yCe_wsL_law _ [1282, 1283, 1284, 2] rfl rfl) ggL_law_X7_feed
set_option maxRecDepth 100000 in
theorem yg_wsX8_feed : wsX8_feed.all goodWord = true := by decide +kernel
set_option maxRecDepth 100000 in
theorem ggL_law_X8_feed : GoodIn wsL_law wsX8_feed := ygc yCe_wsL_law _ [1298, 1299, 1300, 1026, 1301, 1302, 5, 1303, 12032, 12033, 12034, 12035, 12036, 12037, 12038, 12039, 12040, 12041, 12042, 12043, 12044, 12045, 12046, 12047, 12048, 12049, 12050, 12051, 12052, 12053, 12054, 12055, 12056, 12057, 12058, 12059, 12060, 12061, 12062, 12063, 12064] rfl yg_wsX8_feed
set_option maxRecDepth 100000 in
theorem gL_law_X8_feed : GoodIn wsL_law (wsV RL 17 RX8 yX8_feed wsX8_feed) := goodIn_app (ygc yCe_wsL_law _ [1295, 1296, 1297, 5] rfl rfl) ggL_law_X8_feed
set_option maxRecDepth 100000 in
theorem yg_wsX7_end : wsX7_end.all goodWord = true := by decide +kernel
set_option maxRecDepth 100000 in
theorem ggL_law_X7_end : GoodIn wsL_law wsX7_end := ygc yCe_wsL_law _ [1539, 23, 1286, 1287, 1288, 2, 1289, 11776, 11777, 11778, 11779, 11780, 11781, 11782, 11783, 11784, 13824, 13825] rfl yg_wsX7_end
set_option maxRecDepth 100000 in
theorem gL_law_X7_end : GoodIn wsL_law (wsV RL 18 RX7 yX7_end wsX7_end) := goodIn_app (ygc yCe_wsL_law _ [1536, 1537, 1538, 2] rfl rfl) ggL_law_X7_end
set_option maxRecDepth 100000 in
theorem yg_wsX8_end : wsX8_end.all goodWord = true := by decide +kernel
set_option maxRecDepth 100000 in
theorem ggL_law_X8_end : GoodIn wsL_law wsX8_end := ygc yCe_wsL_law _ [1543, 1300, 1301, 1302, 5, 1303, 12032, 12033, 12034, 12035, 12036, 12037, 12038, 12039, 12040, 12041, 12042, 12043, 12044, 12045, 12046, 12047, 12048, 12049, 12050, 12051, 12052, 12053, 12054, 12055, 12056, 12057, 12058, 12059, 12060, 12061, 12062, 12063, 12064] rfl yg_wsX8_end
set_option maxRecDepth 100000 in
theorem gL_law_X8_end : GoodIn wsL_law (wsV RL 21 RX8 yX8_end wsX8_end) := goodIn_app (ygc yCe_wsL_law _ [1540, 1541, 1542, 5] rfl rfl) ggL_law_X8_end
set_option maxRecDepth 100000 in
theorem yg_wsX7_text : wsX7_text.all goodWord = true := by decide +kernel
set_option maxRecDepth 100000 in
theorem ggL_law_X7_text : GoodIn wsL_law wsX7_text := ygc yCe_wsL_law _ [1547, 21, 16, 23, 1286, 1548, 1549, 15, 1550, 1551, 1552, 1553, 1554, 20, 1555, 1556, 1557, 1558, 1559, 1792, 1793, 1794, 1795, 1796, 1797, 1798, 1799, 1800, 535, 1801, 1802, 1803, 1804, 14, 1805, 267, 1806, 1807, 1808, 270, 271, 275, 279, 1809, 516, 1810, 1811, 1812, 1813, 1814, 1815, 2048, 2049, 2050, 272, 273, 274, 2051, 2052, 2053, 2054, 2055, 2056, 2057, 2058, 2059, 2060, 2061, 2062, 2063, 2064, 2065, 2066, 2067, 2068, 2069, 2070, 2071, 2304, 2305, 2306, 2307, 2308, 2309, 2310, 2311, 2312, 2313, 2314, 2315, 2316, 2317, 2318, 2319, 2320, 2321, 2322, 2323, 2324, 2325, 2326, 2327, 2560, 2561, 2562, 2563, 2564, 2565, 2566, 2567, 2568, 2569, 2570, 2571, 2572, 2573, 2574, 2575, 2576, 2577, 2578, 2579, 2580, 2581, 2582, 2583, 2816, 2817, 2818, 2819, 2820, 2821, 2822, 2823, 2824, 2825, 2826, 2827, 2828, 2829, 1288, 2, 1289, 2830, 2831, 2832, 2833, 2834, 2835, 2836, 2837, 269, 2838, 2839, 3072, 3073, 3074, 3075, 3076, 3077, 3078, 3079, 3080, 3081, 3082, 3083, 3084, 3085, 3086, 3087, 3088, 3089, 3090, 3091, 3092, 3093, 3094, 3095, 3328, 3329, 3330, 3331, 3332, 3333, 3334, 3335, 3336, 3337, 3338, 3339, 3340, 3341, 3342, 3343, 3344, 3345, 3346, 3347, 3348, 3349, 3350, 3351, 3584, 3585, 1287, 3586, 3587, 3588, 278, 3589, 3590, 520, 521, 522, 523, 3591, 3592, 3593, 3594, 3595, 3596, 3597, 3598, 3599, 515, 3600, 3601, 527, 528, 3602, 3603, 3604, 3605, 3606, 3607, 3840, 3841, 3842, 3843, 3844, 3845, 3846, 3847, 3848, 3849, 3850, 3851, 3852, 3853, 3854, 3855, 11776, 11777, 11778, 11779, 11780, 11781, 11782, 11783, 11784, 13824, 13825, 12544, 12545, 12546, 12547, 12548, 12549, 12550, 12551, 12552, 12553, 12554, 12555, 12556, 12288, 12289, 12290, 12291, 12292, 12293, 12294, 12295, 12296, 12297, 12298, 12299, 12300, 12301, 12302, 12303, 12304, 12305, 13312, 13313, 13314, 13315, 13316, 13568, 13569, 13570] rfl yg_wsX7_text
set_option maxRecDepth 100000 in
theorem gL_law_X7_text : GoodIn wsL_law (wsV RL 22 RX7 yX7_text wsX7_text) := goodIn_app (ygc yCe_wsL_law _ [1544, 1545, 1546, 2] rfl rfl) ggL_law_X7_text
set_option maxRecDepth 100000 in
theorem yg_wsX8_text : wsX8_text.all goodWord = true := by decide +kernel
set_option maxRecDepth 100000 in
theorem ggL_law_X8_text : GoodIn wsL_law wsX8_text := ygc yCe_wsL_law _ [3859, 3860, 3861, 3862, 1041, 1037, 1042, 1040, 1300, 3863, 1033, 1034, 1035, 5, 1036, 791, 1025, 1038, 1039, 4096, 4097, 4098, 4099, 4100, 4101, 4102, 4103, 4104, 4105, 4106, 4107, 4108, 4109, 1026, 1301, 1302, 1303, 4110, 4111, 4112, 4113, 4114, 4115, 4116, 4117, 4118, 4119, 4352, 4353, 4354, 4355, 4356, 4357, 4358, 4359, 4360, 4361, 4362, 4363, 4364, 4365, 4366, 4367, 4368, 4369, 1024, 4370, 4371, 4372, 4373, 4374, 4375, 4608, 4609, 4610, 4611, 4612, 4613, 4614, 4615, 4616, 4617, 4618, 4619, 4620, 4621, 4622, 4623, 4624, 4625, 4626, 4627, 4628, 4629, 4630, 4631, 4864, 4865, 4866, 4867, 4868, 4869, 4870, 4871, 4872, 4873, 4874, 4875, 4876, 4877, 4878, 4879, 4880, 4881, 1043, 1044, 1045, 1046, 787, 1047, 1280, 1281, 790, 789, 12032, 12033, 12034, 12035, 12036, 12037, 12038, 12039, 12040, 12041, 12042, 12043, 12044, 12045, 12046, 12047, 12048, 12049, 12050, 12051, 12052, 12053, 12054, 12055, 12056, 12057, 12058, 12059, 12060, 12061, 12062, 12063, 12064] rfl yg_wsX8_text
set_option maxRecDepth 100000 in
theorem gL_law_X8_text : GoodIn wsL_law (wsV RL 26 RX8 yX8_text wsX8_text) := goodIn_app (ygc yCe_wsL_law _ [3856, 3857, 3858, 5] rfl rfl) ggL_law_X8_text
set_option maxRecDepth 100000 in
theorem yg_wsX7_fault : wsX7_fault.all goodWord = true := by decide +kernel
set_option maxRecDepth 100000 in
theorem ggL_law_X7_fault : GoodIn wsL_law wsX7_fault := ygc yCe_wsL_law _ [4885, 21, 1548, 11776, 11777, 11778, 11779, 11780, 11781, 11782, 11783, 11784, 12544, 12545, 12546, 12547, 12548, 12549, 12550, 12551, 12552, 12553, 12554, 12555, 12556] rfl yg_wsX7_fault
set_option maxRecDepth 100000 in
theorem gL_law_X7_fault : GoodIn wsL_law (wsV RL 27 RX7 yX7_fault wsX7_fault) := goodIn_app (ygc yCe_wsL_law _ [4882, 4883, 4884, 2] rfl rfl) ggL_law_X7_fault
set_option maxRecDepth 100000 in
theorem yg_wsX8_fault : wsX8_fault.all goodWord = true := by decide +kernel
set_option maxRecDepth 100000 in
theorem ggL_law_X8_fault : GoodIn wsL_law wsX8_fault := ygc yCe_wsL_law _ [5121, 3860, 12032, 12033, 12034, 12035, 12036, 12037, 12038, 12039, 12040, 12041, 12042, 12043, 12044, 12045, 12046, 12047, 12048, 12049, 12050, 12051, 12052, 12053, 12054, 12055, 12056, 12057, 12058, 12059, 12060, 12061, 12062, 12063, 12064] rfl yg_wsX8_fault
set_option maxRecDepth 100000 in
theorem gL_law_X8_fault : GoodIn wsL_law (wsV RL 30 RX8 yX8_fault wsX8_fault) := goodIn_app (ygc yCe_wsL_law _ [4886, 4887, 5120, 5] rfl rfl) ggL_law_X8_fault
set_option maxRecDepth 100000 in
theorem yg_wsX7_rule : wsX7_rule.all goodWord = true := by decide +kernel
set_option maxRecDepth 100000 in
theorem ggL_law_X7_rule : GoodIn wsL_law wsX7_rule := ygc yCe_wsL_law _ [5125, 15, 5126, 5127, 5128, 5129, 5130, 5131, 5132, 5133, 5134, 5135, 5136, 11776, 11777, 11778, 11779, 11780, 11781, 11782, 11783, 11784, 12288, 12289, 12290, 12291, 12292, 12293, 12294, 12295, 12296, 12297, 12298, 12299, 12300, 12301, 12302, 12303, 12304, 12305, 13312, 13313, 13314, 13315, 13316, 13568, 13569, 13570] rfl yg_wsX7_rule
set_option maxRecDepth 100000 in
theorem gL_law_X7_rule : GoodIn wsL_law (wsV RL 31 RX7 yX7_rule wsX7_rule) := goodIn_app (ygc yCe_wsL_law _ [5122, 5123, 5124, 2] rfl rfl) ggL_law_X7_rule
set_option maxRecDepth 100000 in
theorem yg_wsX8_rule : wsX8_rule.all goodWord = true := by decide +kernel
set_option maxRecDepth 100000 in
theorem ggL_law_X8_rule : GoodIn wsL_law wsX8_rule := ygc yCe_wsL_law _ [5140, 1047, 1280, 1281, 787, 5141, 5142, 5143, 5376, 5, 5377, 1301, 1302, 1303, 12032, 12033, 12034, 12035, 12036, 12037, 12038, 12039, 12040, 12041, 12042, 12043, 12044, 12045, 12046, 12047, 12048, 12049, 12050, 12051, 12052, 12053, 12054, 12055, 12056, 12057, 12058, 12059, 12060, 12061, 12062, 12063, 12064] rfl yg_wsX8_rule
set_option maxRecDepth 100000 in
theorem gL_law_X8_rule : GoodIn wsL_law (wsV RL 34 RX8 yX8_rule wsX8_rule) := goodIn_app (ygc yCe_wsL_law _ [5137, 5138, 5139, 5] rfl rfl) ggL_law_X8_rule
set_option maxRecDepth 100000 in
theorem yg_wsX7_house : wsX7_house.all goodWord = true := by decide +kernel
set_option maxRecDepth 100000 in
theorem ggL_law_X7_house : GoodIn wsL_law wsX7_house := ygc yCe_wsL_law _ [5381, 15, 5382, 5383, 5384, 5385, 5386, 5387, 5128, 5388, 5389, 5390, 5391, 14, 5392, 267, 1288, 2, 1289, 5393, 3088, 3089, 1287, 5394, 5395, 5396, 11776, 11777, 11778, 11779, 11780, 11781, 11782, 11783, 11784, 12288, 12289, 12290, 12291, 12292, 12293, 12294, 12295, 12296, 12297, 12298, 12299, 12300, 12301, 12302, 12303, 12304, 12305] rfl yg_wsX7_house
set_option maxRecDepth 100000 in
theorem gL_law_X7_house : GoodIn wsL_law (wsV RL 35 RX7 yX7_house wsX7_house) := goodIn_app (ygc yCe_wsL_law _ [5378, 5379, 5380, 2] rfl rfl) ggL_law_X7_house
set_option maxRecDepth 100000 in
theorem yg_wsX8_house : wsX8_house.all goodWord = true := by decide +kernel
set_option maxRecDepth 100000 in
theorem ggL_law_X8_house : GoodIn wsL_law wsX8_house := ygc yCe_wsL_law _ [5632, 5141, 787, 5633, 5634, 5635, 5, 5636, 1047, 1301, 1302, 1303, 5637, 5638, 5639, 5640, 1281, 12032, 12033, 12034, 12035, 12036, 12037, 12038, 12039, 12040, 12041, 12042, 12043, 12044, 12045, 12046, 12047, 12048, 12049, 12050, 12051, 12052, 12053, 12054, 12055, 12056, 12057, 12058, 12059, 12060, 12061, 12062, 12063, 12064] rfl yg_wsX8_house
set_option maxRecDepth 100000 in
theorem gL_law_X8_house : GoodIn wsL_law (wsV RL 39 RX8 yX8_house wsX8_house) := goodIn_app (ygc yCe_wsL_law _ [5397, 5398, 5399, 5] rfl rfl) ggL_law_X8_house
set_option maxRecDepth 100000 in
theorem yg_wsX7_cost : wsX7_cost.all goodWord = true := by decide +kernel
set_option maxRecDepth 100000 in
theorem ggL_law_X7_cost : GoodIn wsL_law wsX7_cost := ygc yCe_wsL_law _ [5644, 15, 5645, 5646, 5647, 5648, 14, 5649, 1807, 1288, 2, 1289, 11776, 11777, 11778, 11779, 11780, 11781, 11782, 11783, 11784, 12288, 12289, 12290, 12291, 12292, 12293, 12294, 12295, 12296, 12297, 12298, 12299, 12300, 12301, 12302, 12303, 12304, 12305] rfl yg_wsX7_cost
set_option maxRecDepth 100000 in
theorem gL_law_X7_cost : GoodIn wsL_law (wsV RL 40 RX7 yX7_cost wsX7_cost) := goodIn_app (ygc yCe_wsL_law _ [5641, 5642, 5643, 2] rfl rfl) ggL_law_X7_cost
set_option maxRecDepth 100000 in
theorem yg_wsX8_cost : wsX8_cost.all goodWord = true := by decide +kernel
set_option maxRecDepth 100000 in
theorem ggL_law_X8_cost : GoodIn wsL_law wsX8_cost := ygc yCe_wsL_law _ [5653, 790, 5637, 5638, 5639, 5, 5640, 1281, 1301, 1302, 1303, 12032, 12033, 12034, 12035, 12036, 12037, 12038, 12039, 12040, 12041, 12042, 12043, 12044, 12045, 12046, 12047, 12048, 12049, 12050, 12051, 12052, 12053, 12054, 12055, 12056, 12057, 12058, 12059, 12060, 12061, 12062, 12063, 12064] rfl yg_wsX8_cost
set_option maxRecDepth 100000 in
theorem gL_law_X8_cost : GoodIn wsL_law (wsV RL 43 RX8 yX8_cost wsX8_cost) := goodIn_app (ygc yCe_wsL_law _ [5650, 5651, 5652, 5] rfl rfl) ggL_law_X8_cost
set_option maxRecDepth 100000 in
theorem yg_wsX7_vow : wsX7_vow.all goodWord = true := by decide +kernel
set_option maxRecDepth 100000 in
theorem ggL_law_X7_vow : GoodIn wsL_law wsX7_vow := ygc yCe_wsL_law _ [5889, 15, 5129, 5130, 5890, 5891, 5892, 5893, 1287, 1288, 2, 1289, 11776, 11777, 11778, 11779, 11780, 11781, 11782, 11783, 11784, 12288, 12289, 12290, 12291, 12292, 12293, 12294, 12295, 12296, 12297, 12298, 12299, 12300, 12301, 12302, 12303, 12304, 12305, 13312, 13313, 13314, 13315, 13316] rfl yg_wsX7_vow
set_option maxRecDepth 100000 in
theorem gL_law_X7_vow : GoodIn wsL_law (wsV RL 44 RX7 yX7_vow wsX7_vow) := goodIn_app (ygc yCe_wsL_law _ [5654, 5655, 5888, 2] rfl rfl) ggL_law_X7_vow
set_option maxRecDepth 100000 in
theorem yg_wsX8_vow : wsX8_vow.all goodWord = true := by decide +kernel
set_option maxRecDepth 100000 in
theorem ggL_law_X8_vow : GoodIn wsL_law wsX8_vow := ygc yCe_wsL_law _ [5897, 787, 5898, 1301, 1302, 5, 1303, 12032, 12033, 12034, 12035, 12036, 12037, 12038, 12039, 12040, 12041, 12042, 12043, 12044, 12045, 12046, 12047, 12048, 12049, 12050, 12051, 12052, 12053, 12054, 12055, 12056, 12057, 12058, 12059, 12060, 12061, 12062, 12063, 12064] rfl yg_wsX8_vow
set_option maxRecDepth 100000 in
theorem gL_law_X8_vow : GoodIn wsL_law (wsV RL 47 RX8 yX8_vow wsX8_vow) := goodIn_app (ygc yCe_wsL_law _ [5894, 5895, 5896, 5] rfl rfl) ggL_law_X8_vow
set_option maxRecDepth 100000 in
theorem yg_wsX7_want : wsX7_want.all goodWord = true := by decide +kernel
set_option maxRecDepth 100000 in
theorem ggL_law_X7_want : GoodIn wsL_law wsX7_want := ygc yCe_wsL_law _ [5902, 15, 5131, 5132, 5903, 5904, 1287, 1288, 2, 1289, 11776, 11777, 11778, 11779, 11780, 11781, 11782, 11783, 11784, 12288, 12289, 12290, 12291, 12292, 12293, 12294, 12295, 12296, 12297, 12298, 12299, 12300, 12301, 12302, 12303, 12304, 12305, 13568, 13569, 13570] rfl yg_wsX7_want
set_option maxRecDepth 100000 in
theorem gL_law_X7_want : GoodIn wsL_law (wsV RL 48 RX7 yX7_want wsX7_want) := goodIn_app (ygc yCe_wsL_law _ [5899, 5900, 5901, 2] rfl rfl) ggL_law_X7_want
set_option maxRecDepth 100000 in
theorem yg_wsX8_want : wsX8_want.all goodWord = true := by decide +kernel
set_option maxRecDepth 100000 in
theorem ggL_law_X8_want : GoodIn wsL_law wsX8_want := ygc yCe_wsL_law _ [5908, 787, 1301, 1302, 5, 1303, 12032, 12033, 12034, 12035, 12036, 12037, 12038, 12039, 12040, 12041, 12042, 12043, 12044, 12045, 12046, 12047, 12048, 12049, 12050, 12051, 12052, 12053, 12054, 12055, 12056, 12057, 12058, 12059, 12060, 12061, 12062, 12063, 12064] rfl yg_wsX8_want
set_option maxRecDepth 100000 in
theorem gL_law_X8_want : GoodIn wsL_law (wsV RL 51 RX8 yX8_want wsX8_want) := goodIn_app (ygc yCe_wsL_law _ [5905, 5906, 5907, 5] rfl rfl) ggL_law_X8_want
set_option maxRecDepth 100000 in
theorem yg_wsX7_fund : wsX7_fund.all goodWord = true := by decide +kernel
set_option maxRecDepth 100000 in
theorem ggL_law_X7_fund : GoodIn wsL_law wsX7_fund := ygc yCe_wsL_law _ [6144, 15, 5382, 5389, 5390, 5391, 14, 5392, 267, 1288, 2, 1289, 1287, 11776, 11777, 11778, 11779, 11780, 11781, 11782, 11783, 11784, 12288, 12289, 12290, 12291, 12292, 12293, 12294, 12295, 12296, 12297, 12298, 12299, 12300, 12301, 12302, 12303, 12304, 12305] rfl yg_wsX7_fund
set_option maxRecDepth 100000 in
theorem gL_law_X7_fund : GoodIn wsL_law (wsV RL 52 RX7 yX7_fund wsX7_fund) := goodIn_app (ygc yCe_wsL_law _ [5909, 5910, 5911, 2] rfl rfl) ggL_law_X7_fund
set_option maxRecDepth 100000 in
theorem yg_wsX8_fund : wsX8_fund.all goodWord = true := by decide +kernel
set_option maxRecDepth 100000 in
theorem ggL_law_X8_fund : GoodIn wsL_law wsX8_fund := ygc yCe_wsL_law _ [6148, 6149, 5633, 5634, 5635, 5, 5636, 1047, 1301, 1302, 1303, 6150, 6151, 6152, 6153, 787, 12032, 12033, 12034, 12035, 12036, 12037, 12038, 12039, 12040, 12041, 12042, 12043, 12044, 12045, 12046, 12047, 12048, 12049, 12050, 12051, 12052, 12053, 12054, 12055, 12056, 12057, 12058, 12059, 12060, 12061, 12062, 12063, 12064] rfl yg_wsX8_fund
set_option maxRecDepth 100000 in
theorem gL_law_X8_fund : GoodIn wsL_law (wsV RL 55 RX8 yX8_fund wsX8_fund) := goodIn_app (ygc yCe_wsL_law _ [6145, 6146, 6147, 5] rfl rfl) ggL_law_X8_fund
set_option maxRecDepth 100000 in
theorem yg_wsX7_can : wsX7_can.all goodWord = true := by decide +kernel
set_option maxRecDepth 100000 in
theorem ggL_law_X7_can : GoodIn wsL_law wsX7_can := ygc yCe_wsL_law _ [6157, 15, 5383, 5389, 5390, 5391, 14, 5392, 267, 1288, 2, 1289, 5646, 5647, 5648, 5649, 1807, 5393, 3088, 3089, 6158, 3090, 3091, 11776, 11777, 11778, 11779, 11780, 11781, 11782, 11783, 11784, 12288, 12289, 12290, 12291, 12292, 12293, 12294, 12295, 12296, 12297, 12298, 12299, 12300, 12301, 12302, 12303, 12304, 12305] rfl yg_wsX7_can
set_option maxRecDepth 100000 in
theorem gL_law_X7_can : GoodIn wsL_law (wsV RL 56 RX7 yX7_can wsX7_can) := goodIn_app (ygc yCe_wsL_law _ [6154, 6155, 6156, 2] rfl rfl) ggL_law_X7_can
set_option maxRecDepth 100000 in
theorem yg_wsX8_can : wsX8_can.all goodWord = true := by decide +kernel
set_option maxRecDepth 100000 in
theorem ggL_law_X8_can : GoodIn wsL_law wsX8_can := ygc yCe_wsL_law _ [6162, 787, 5633, 5634, 5635, 5, 5636, 1047, 1301, 1302, 1303, 5637, 5638, 5639, 5640, 1281, 12032, 12033, 12034, 12035, 12036, 12037, 12038, 12039, 12040, 12041, 12042, 12043, 12044, 12045, 12046, 12047, 12048, 12049, 12050, 12051, 12052, 12053, 12054, 12055, 12056, 12057, 12058, 12059, 12060, 12061, 12062, 12063, 12064] rfl yg_wsX8_can
set_option maxRecDepth 100000 in
theorem gL_law_X8_can : GoodIn wsL_law (wsV RL 60 RX8 yX8_can wsX8_can) := goodIn_app (ygc yCe_wsL_law _ [6159, 6160, 6161, 5] rfl rfl) ggL_law_X8_can
set_option maxRecDepth 100000 in
theorem yg_wsX7_lawyer : wsX7_lawyer.all goodWord = true := by decide +kernel
set_option maxRecDepth 100000 in
theorem ggL_law_X7_lawyer : GoodIn wsL_law wsX7_lawyer := ygc yCe_wsL_law _ [6166, 15, 5384, 5389, 5390, 5391, 14, 5392, 267, 1288, 2, 1289, 5393, 3088, 3089, 6158, 3090, 3091, 11776, 11777, 11778, 11779, 11780, 11781, 11782, 11783, 11784, 12288, 12289, 12290, 12291, 12292, 12293, 12294, 12295, 12296, 12297, 12298, 12299, 12300, 12301, 12302, 12303, 12304, 12305] rfl yg_wsX7_lawyer
set_option maxRecDepth 100000 in
theorem gL_law_X7_lawyer : GoodIn wsL_law (wsV RL 61 RX7 yX7_lawyer wsX7_lawyer) := goodIn_app (ygc yCe_wsL_law _ [6163, 6164, 6165, 2] rfl rfl) ggL_law_X7_lawyer
set_option maxRecDepth 100000 in
theorem yg_wsX8_lawyer : wsX8_lawyer.all goodWord = true := by decide +kernel
set_option maxRecDepth 100000 in
theorem ggL_law_X8_lawyer : GoodIn wsL_law wsX8_lawyer := ygc yCe_wsL_law _ [6402, 5633, 5634, 5635, 5, 5636, 1047, 1301, 1302, 1303, 5143, 5376, 5377, 6150, 6151, 6152, 6153, 787, 12032, 12033, 12034, 12035, 12036, 12037, 12038, 12039, 12040, 12041, 12042, 12043, 12044, 12045, 12046, 12047, 12048, 12049, 12050, 12051, 12052, 12053, 12054, 12055, 12056, 12057, 12058, 12059, 12060, 12061, 12062, 12063, 12064] rfl yg_wsX8_lawyer
set_option maxRecDepth 100000 in
theorem gL_law_X8_lawyer : GoodIn wsL_law (wsV RL 65 RX8 yX8_lawyer wsX8_lawyer) := goodIn_app (ygc yCe_wsL_law _ [6167, 6400, 6401, 5] rfl rfl) ggL_law_X8_lawyer
set_option maxRecDepth 100000 in
theorem yg_wsX7_habit : wsX7_habit.all goodWord = true := by decide +kernel
set_option maxRecDepth 100000 in
theorem ggL_law_X7_habit : GoodIn wsL_law wsX7_habit := ygc yCe_wsL_law _ [6406, 15, 5387, 5389, 5390, 5391, 14, 5392, 267, 1288, 2, 1289, 6407, 6408, 6409, 1287, 5646, 5647, 5648, 5649, 1807, 6410, 2048, 2049, 2050, 272, 273, 274, 11776, 11777, 11778, 11779, 11780, 11781, 11782, 11783, 11784, 12288, 12289, 12290, 12291, 12292, 12293, 12294, 12295, 12296, 12297, 12298, 12299, 12300, 12301, 12302, 12303, 12304, 12305] rfl yg_wsX7_habit
set_option maxRecDepth 100000 in
theorem gL_law_X7_habit : GoodIn wsL_law (wsV RL 66 RX7 yX7_habit wsX7_habit) := goodIn_app (ygc yCe_wsL_law _ [6403, 6404, 6405, 2] rfl rfl) ggL_law_X7_habit
set_option maxRecDepth 100000 in
theorem yg_wsX8_habit : wsX8_habit.all goodWord = true := by decide +kernel
set_option maxRecDepth 100000 in
theorem ggL_law_X8_habit : GoodIn wsL_law wsX8_habit := ygc yCe_wsL_law _ [6414, 6415, 787, 5633, 5634, 5635, 5, 5636, 1047, 1301, 1302, 1303, 6416, 6417, 6418, 6419, 5637, 5638, 5639, 5640, 1281, 6150, 6151, 6152, 6153, 12032, 12033, 12034, 12035, 12036, 12037, 12038, 12039, 12040, 12041, 12042, 12043, 12044, 12045, 12046, 12047, 12048, 12049, 12050, 12051, 12052, 12053, 12054, 12055, 12056, 12057, 12058, 12059, 12060, 12061, 12062, 12063, 12064] rfl yg_wsX8_habit
set_option maxRecDepth 100000 in
theorem gL_law_X8_habit : GoodIn wsL_law (wsV RL 70 RX8 yX8_habit wsX8_habit) := goodIn_app (ygc yCe_wsL_law _ [6411, 6412, 6413, 5] rfl rfl) ggL_law_X8_habit
set_option maxRecDepth 100000 in
theorem ggL_law_X7_vows : GoodIn wsL_law wsX7_vows := ygc yCe_wsL_law _ [6423, 15, 5129, 5130, 5389, 5390, 5391, 14, 5392, 267, 1288, 2, 1289, 6407, 6408, 6409, 1287, 6656, 3584, 3585, 5646, 5647, 5648, 5649, 1807, 6657, 3587, 3588, 278, 3589, 3590, 520, 521, 522, 523, 11776, 11777, 11778, 11779, 11780, 11781, 11782, 11783, 11784, 12288, 12289, 12290, 12291, 12292, 12293, 12294, 12295, 12296, 12297, 12298, 12299, 12300, 12301, 12302, 12303, 12304, 12305, 13312, 13313, 13314, 13315, 13316] rfl yg_wsX7_vows
set_option maxRecDepth 100000 in
theorem gL_law_X7_vows : GoodIn wsL_law (wsV RL 71 RX7 yX7_vows wsX7_vows) := goodIn_app (ygc yCe_wsL_law _ [6420, 6421, 6422, 2] rfl rfl) ggL_law_X7_vows
set_option maxRecDepth 100000 in
theorem ggL_law_X8_vows : GoodIn wsL_law wsX8_vows := ygc yCe_wsL_law _ [6661, 787, 5633, 5634, 5635, 5, 5636, 1047, 1301, 1302, 1303, 6416, 6417, 6418, 6419, 6662, 6663, 6664, 5898, 5637, 5638, 5639, 5640, 1281, 12032, 12033, 12034, 12035, 12036, 12037, 12038, 12039, 12040, 12041, 12042, 12043, 12044, 12045, 12046, 12047, 12048, 12049, 12050, 12051, 12052, 12053, 12054, 12055, 12056, 12057, 12058, 12059, 12060, 12061, 12062, 12063, 12064] rfl yg_wsX8_vows
set_option maxRecDepth 100000 in
theorem gL_law_X8_vows : GoodIn wsL_law (wsV RL 74 RX8 yX8_vows wsX8_vows) := goodIn_app (ygc yCe_wsL_law _ [6658, 6659, 6660, 5] rfl rfl) ggL_law_X8_vows
set_option maxRecDepth 100000 in
theorem yg_wsX7_wish : wsX7_wish.all goodWord = true := by decide +kernel
set_option maxRecDepth 100000 in
theorem ggL_law_X7_wish : GoodIn wsL_law wsX7_wish := ygc yCe_wsL_law _ [6668, 15, 5131, 5132, 5389, 5390, 5391, 14, 5392, 267, 1288, 2, 1289, 5646, 5647, 5648, 5649, 1807, 6669, 3598, 3599, 515, 3600, 3601, 527, 528, 11776, 11777, 11778, 11779, 11780, 11781, 11782, 11783, 11784, 12288, 12289, 12290, 12291, 12292, 12293, 12294, 12295, 12296, 12297, 12298, 12299, 12300, 12301, 12302, 12303, 12304, 12305, 13568, 13569, 13570] rfl yg_wsX7_wish
set_option maxRecDepth 100000 in
theorem gL_law_X7_wish : GoodIn wsL_law (wsV RL 75 RX7 yX7_wish wsX7_wish) := goodIn_app (ygc yCe_wsL_law _ [6665, 6666, 6667, 2] rfl rfl) ggL_law_X7_wish
set_option maxRecDepth 100000 in
theorem yg_wsX8_wish : wsX8_wish.all goodWord = true := by decide +kernel
set_option maxRecDepth 100000 in
theorem ggL_law_X8_wish : GoodIn wsL_law wsX8_wish := ygc yCe_wsL_law _ [6673, 787, 5633, 5634, 5635, 5, 5636, 1047, 1301, 1302, 1303, 5637, 5638, 5639, 5640, 1281, 12032, 12033, 12034, 12035, 12036, 12037, 12038, 12039, 12040, 12041, 12042, 12043, 12044, 12045, 12046, 12047, 12048, 12049, 12050, 12051, 12052, 12053, 12054, 12055, 12056, 12057, 12058, 12059, 12060, 12061, 12062, 12063, 12064] rfl yg_wsX8_wish
set_option maxRecDepth 100000 in
theorem gL_law_X8_wish : GoodIn wsL_law (wsV RL 78 RX8 yX8_wish wsX8_wish) := goodIn_app (ygc yCe_wsL_law _ [6670, 6671, 6672, 5] rfl rfl) ggL_law_X8_wish
set_option maxRecDepth 100000 in
theorem yg_wsX7_drop : wsX7_drop.all goodWord = true := by decide +kernel
set_option maxRecDepth 100000 in
theorem ggL_law_X7_drop : GoodIn wsL_law wsX7_drop := ygc yCe_wsL_law _ [6677, 15, 5129, 5130, 5131, 5132, 1287, 1288, 2, 1289, 11776, 11777, 11778, 11779, 11780, 11781, 11782, 11783, 11784, 12288, 12289, 12290, 12291, 12292, 12293, 12294, 12295, 12296, 12297, 12298, 12299, 12300, 12301, 12302, 12303, 12304, 12305, 13312, 13313, 13314, 13315, 13316, 13568, 13569, 13570] rfl yg_wsX7_drop
set_option maxRecDepth 100000 in
theorem gL_law_X7_drop : GoodIn wsL_law (wsV RL 79 RX7 yX7_drop wsX7_drop) := goodIn_app (ygc yCe_wsL_law _ [6674, 6675, 6676, 2] rfl rfl) ggL_law_X7_drop
set_option maxRecDepth 100000 in
theorem yg_wsX8_drop : wsX8_drop.all goodWord = true := by decide +kernel
set_option maxRecDepth 100000 in
theorem ggL_law_X8_drop : GoodIn wsL_law wsX8_drop := ygc yCe_wsL_law _ [6913, 787, 1301, 1302, 5, 1303, 6150, 6151, 6152, 6153, 12032, 12033, 12034, 12035, 12036, 12037, 12038, 12039, 12040, 12041, 12042, 12043, 12044, 12045, 12046, 12047, 12048, 12049, 12050, 12051, 12052, 12053, 12054, 12055, 12056, 12057, 12058, 12059, 12060, 12061, 12062, 12063, 12064] rfl yg_wsX8_drop
set_option maxRecDepth 100000 in
theorem gL_law_X8_drop : GoodIn wsL_law (wsV RL 82 RX8 yX8_drop wsX8_drop) := goodIn_app (ygc yCe_wsL_law _ [6678, 6679, 6912, 5] rfl rfl) ggL_law_X8_drop
set_option maxRecDepth 100000 in
theorem yg_wsX7_move : wsX7_move.all goodWord = true := by decide +kernel
set_option maxRecDepth 100000 in
theorem ggL_law_X7_move : GoodIn wsL_law wsX7_move := ygc yCe_wsL_law _ [6917, 15, 5383, 5389, 5390, 5391, 14, 5392, 267, 1288, 2, 1289, 6918, 6919, 6920, 6921, 270, 271, 6922, 6923, 6924, 6925, 6926, 6927, 6928, 11776, 11777, 11778, 11779, 11780, 11781, 11782, 11783, 11784, 12288, 12289, 12290, 12291, 12292, 12293, 12294, 12295, 12296, 12297, 12298, 12299, 12300, 12301, 12302, 12303, 12304, 12305] rfl yg_wsX7_move
set_option maxRecDepth 100000 in
theorem gL_law_X7_move : GoodIn wsL_law (wsV RL 83 RX7 yX7_move wsX7_move) := goodIn_app (ygc yCe_wsL_law _ [6914, 6915, 6916, 2] rfl rfl) ggL_law_X7_move
set_option maxRecDepth 100000 in
theorem yg_wsX8_move : wsX8_move.all goodWord = true := by decide +kernel
set_option maxRecDepth 100000 in
theorem ggL_law_X8_move : GoodIn wsL_law wsX8_move := ygc yCe_wsL_law _ [6932, 787, 5633, 5634, 5635, 5, 5636, 1047, 1301, 1302, 1303, 6933, 6934, 6935, 7168, 7169, 7170, 7171, 7172, 7173, 7174, 7175, 12032, 12033, 12034, 12035, 12036, 12037, 12038, 12039, 12040, 12041, 12042, 12043, 12044, 12045, 12046, 12047, 12048, 12049, 12050, 12051, 12052, 12053, 12054, 12055, 12056, 12057, 12058, 12059, 12060, 12061, 12062, 12063, 12064] rfl yg_wsX8_move
set_option maxRecDepth 100000 in
theorem gL_law_X8_move : GoodIn wsL_law (wsV RL 86 RX8 yX8_move wsX8_move) := goodIn_app (ygc yCe_wsL_law _ [6929, 6930, 6931, 5] rfl rfl) ggL_law_X8_move
set_option maxRecDepth 100000 in
theorem yg_wsX7_go : wsX7_go.all goodWord = true := by decide +kernel
set_option maxRecDepth 100000 in
theorem ggL_law_X7_go : GoodIn wsL_law wsX7_go := ygc yCe_wsL_law _ [7179, 15, 5133, 1287, 1288, 2, 1289, 7180, 7181, 7182, 14, 7183, 7184, 7185, 7186, 7187, 512, 1809, 279, 7188, 7189, 1811, 7190, 7191, 7424, 7425, 7426, 7427, 7428, 7429, 7430, 7431, 1806, 267, 7432, 7433, 7434, 7435, 1812, 1808, 1813, 7436, 7437, 3088, 3089, 7438, 3587, 3588, 278, 3589, 3590, 520, 521, 522, 523, 7439, 7440, 7441, 7442, 275, 7443, 3081, 3082, 3083, 271, 270, 269, 1814, 7444, 7445, 7446, 5395, 5396, 11776, 11777, 11778, 11779, 11780, 11781, 11782, 11783, 11784, 12288, 12289, 12290, 12291, 12292, 12293, 12294, 12295, 12296, 12297, 12298, 12299, 12300, 12301, 12302, 12303, 12304, 12305, 13312, 13313, 13314, 13315, 13316] rfl yg_wsX7_go
set_option maxRecDepth 100000 in
theorem gL_law_X7_go : GoodIn wsL_law (wsV RL 87 RX7 yX7_go wsX7_go) := goodIn_app (ygc yCe_wsL_law _ [7176, 7177, 7178, 2] rfl rfl) ggL_law_X7_go
set_option maxRecDepth 100000 in
theorem yg_wsX8_go : wsX8_go.all goodWord = true := by decide +kernel
set_option maxRecDepth 100000 in
theorem ggL_law_X8_go : GoodIn wsL_law wsX8_go := ygc yCe_wsL_law _ [7682, 7683, 787, 788, 7684, 1301, 1302, 5, 1303, 7685, 7686, 7687, 7688, 7689, 7690, 7691, 7692, 7693, 7694, 7695, 7696, 7697, 1027, 7698, 7699, 7700, 7701, 7702, 7703, 7936, 7937, 7938, 7939, 1280, 1047, 7940, 7941, 7942, 7943, 7944, 7945, 7946, 7947, 7948, 7949, 7950, 7951, 790, 5143, 5376, 5377, 12032, 12033, 12034, 12035, 12036, 12037, 12038, 12039, 12040, 12041, 12042, 12043, 12044, 12045, 12046, 12047, 12048, 12049, 12050, 12051, 12052, 12053, 12054, 12055, 12056, 12057, 12058, 12059, 12060, 12061, 12062, 12063, 12064] rfl yg_wsX8_go
set_option maxRecDepth 100000 in
theorem gL_law_X8_go : GoodIn wsL_law (wsV RL 90 RX8 yX8_go wsX8_go) := goodIn_app (ygc yCe_wsL_law _ [7447, 7680, 7681, 5] rfl rfl) ggL_law_X8_go
set_option maxRecDepth 100000 in
theorem yg_wsX7_ahead : wsX7_ahead.all goodWord = true := by decide +kernel
set_option maxRecDepth 100000 in
theorem ggL_law_X7_ahead : GoodIn wsL_law wsX7_ahead := ygc yCe_wsL_law _ [7955, 15, 16, 5388, 5389, 5390, 5391, 14, 5392, 267, 1288, 2, 1289, 5646, 5647, 5648, 5649, 1807, 1287, 3606, 3607, 3840, 3841, 1806, 1808, 269, 3842, 3843, 3844, 3845, 270, 271, 272, 273, 274, 275, 279, 516, 1811, 1812, 1813, 1814, 3846, 3847, 3848, 278, 3849, 3590, 520, 3850, 521, 522, 523, 3851, 3852, 3853, 515, 3854, 3601, 527, 3855, 528, 7180, 7181, 7182, 7183, 7184, 7185, 7186, 7187, 512, 1809, 7188, 7189, 7190, 7191, 7424, 7425, 7426, 7427, 7428, 7429, 7430, 7431, 7432, 7433, 7434, 7435, 7436, 7437, 3088, 3089, 7438, 3587, 3588, 3589, 7439, 7440, 7441, 7442, 7443, 3081, 3082, 3083, 7444, 7445, 7446, 5395, 5396, 5394, 11776, 11777, 11778, 11779, 11780, 11781, 11782, 11783, 11784, 12288, 12289, 12290, 12291, 12292, 12293, 12294, 12295, 12296, 12297, 12298, 12299, 12300, 12301, 12302, 12303, 12304, 12305, 13312, 13313, 13314, 13315, 13316, 13568, 13569, 13570] rfl yg_wsX7_ahead
set_option maxRecDepth 100000 in
theorem gL_law_X7_ahead : GoodIn wsL_law (wsV RL 91 RX7 yX7_ahead wsX7_ahead) := goodIn_app (ygc yCe_wsL_law _ [7952, 7953, 7954, 2] rfl rfl) ggL_law_X7_ahead
set_option maxRecDepth 100000 in
theorem yg_wsX8_ahead : wsX8_ahead.all goodWord = true := by decide +kernel
set_option maxRecDepth 100000 in
theorem ggL_law_X8_ahead : GoodIn wsL_law wsX8_ahead := ygc yCe_wsL_law _ [7959, 7683, 788, 5633, 5634, 5635, 5, 5636, 1047, 1301, 1302, 1303, 5637, 5638, 5639, 5640, 1281, 7685, 7686, 7687, 7688, 787, 7689, 7690, 7691, 7692, 7684, 7693, 7694, 7695, 7696, 7697, 1027, 7698, 7699, 7700, 7701, 7702, 7703, 7936, 7937, 7938, 7939, 1280, 7940, 7941, 7942, 7943, 7944, 7945, 7946, 7947, 7948, 7949, 7950, 7951, 790, 5143, 5376, 5377, 12032, 12033, 12034, 12035, 12036, 12037, 12038, 12039, 12040, 12041, 12042, 12043, 12044, 12045, 12046, 12047, 12048, 12049, 12050, 12051, 12052, 12053, 12054, 12055, 12056, 12057, 12058, 12059, 12060, 12061, 12062, 12063, 12064] rfl yg_wsX8_ahead
set_option maxRecDepth 100000 in
theorem gL_law_X8_ahead : GoodIn wsL_law (wsV RL 95 RX8 yX8_ahead wsX8_ahead) := goodIn_app (ygc yCe_wsL_law _ [7956, 7957, 7958, 5] rfl rfl) ggL_law_X8_ahead
set_option maxRecDepth 100000 in
theorem yg_wsX7_rest : wsX7_rest.all goodWord = true := by decide +kernel
set_option maxRecDepth 100000 in
theorem ggL_law_X7_rest : GoodIn wsL_law wsX7_rest := ygc yCe_wsL_law _ [8195, 16, 15, 5129, 5130, 3606, 3607, 3840, 14, 3841, 267, 1806, 1807, 1808, 269, 3842, 3843, 3844, 3845, 270, 271, 272, 273, 274, 275, 279, 516, 1811, 1812, 1813, 1814, 3846, 3847, 3848, 278, 3849, 3590, 520, 3850, 521, 522, 523, 3851, 3852, 3853, 515, 3854, 3601, 527, 3855, 528, 8196, 7185, 7186, 7187, 512, 1809, 7188, 7189, 7190, 7191, 7424, 7425, 7426, 7427, 7428, 7429, 7430, 7431, 7432, 7433, 7434, 7435, 7436, 7437, 3088, 2, 3089, 7438, 3587, 3588, 3589, 7439, 7440, 7441, 7442, 7443, 3081, 3082, 3083, 7444, 7445, 7446, 5395, 5396, 11776, 11777, 11778, 11779, 11780, 11781, 11782, 11783, 11784, 12288, 12289, 12290, 12291, 12292, 12293, 12294, 12295, 12296, 12297, 12298, 12299, 12300, 12301, 12302, 12303, 12304, 12305, 13312, 13313, 13314, 13315, 13316, 13568, 13569, 13570] rfl yg_wsX7_rest
set_option maxRecDepth 100000 in
theorem gL_law_X7_rest : GoodIn wsL_law (wsV RL 96 RX7 yX7_rest wsX7_rest) := goodIn_app (ygc yCe_wsL_law _ [8192, 8193, 8194, 2] rfl rfl) ggL_law_X7_rest
set_option maxRecDepth 100000 in
theorem yg_wsX8_rest : wsX8_rest.all goodWord = true := by decide +kernel
set_option maxRecDepth 100000 in
theorem ggL_law_X8_rest : GoodIn wsL_law wsX8_rest := ygc yCe_wsL_law _ [8200, 788, 7685, 7686, 7687, 5, 7688, 787, 7693, 7694, 7695, 7696, 7697, 1027, 7698, 7699, 7700, 7701, 7702, 7703, 7936, 7937, 7938, 7939, 1280, 1047, 1301, 1302, 1303, 7940, 7941, 7942, 7943, 7944, 7945, 7946, 7947, 7948, 7949, 7950, 7951, 790, 7684, 5143, 5376, 5377, 12032, 12033, 12034, 12035, 12036, 12037, 12038, 12039, 12040, 12041, 12042, 12043, 12044, 12045, 12046, 12047, 12048, 12049, 12050, 12051, 12052, 12053, 12054, 12055, 12056, 12057, 12058, 12059, 12060, 12061, 12062, 12063, 12064] rfl yg_wsX8_rest
set_option maxRecDepth 100000 in
theorem gL_law_X8_rest : GoodIn wsL_law (wsV RL 99 RX8 yX8_rest wsX8_rest) := goodIn_app (ygc yCe_wsL_law _ [8197, 8198, 8199, 5] rfl rfl) ggL_law_X8_rest
set_option maxRecDepth 100000 in
theorem yg_wsX7_plan : wsX7_plan.all goodWord = true := by decide +kernel
set_option maxRecDepth 100000 in
theorem ggL_law_X7_plan : GoodIn wsL_law wsX7_plan := ygc yCe_wsL_law _ [8204, 259, 15, 8205, 8206, 8207, 258, 8208, 776, 8209, 777, 8210, 7445, 3082, 7446, 8211, 2, 8212, 8213, 8214, 8215, 8448, 8449, 8450, 8451, 8452, 8453, 8454, 8455, 14, 8456, 1808, 267, 271, 8457, 8458, 8459, 8460, 7190, 7191, 7424, 7425, 7426, 7427, 8461, 8462, 8463, 8464, 1806, 3088, 3089, 3090, 3091, 8465, 8466, 8467, 8468, 8469, 8470, 8471, 11776, 11777, 11778, 11779, 11780, 11781, 11782, 11783, 11784, 12800, 12801, 12288, 12289, 12290, 12291, 12292, 12293, 12294, 12295, 12296, 12297, 12298, 12299, 12300, 12301, 12302, 12303, 12304, 12305, 13568, 13569, 13570] rfl yg_wsX7_plan
set_option maxRecDepth 100000 in
theorem gL_law_X7_plan : GoodIn wsL_law (wsV RL 100 RX7 yX7_plan wsX7_plan) := goodIn_app (ygc yCe_wsL_law _ [8201, 8202, 8203, 2] rfl rfl) ggL_law_X7_plan
set_option maxRecDepth 100000 in
theorem yg_wsX8_plan : wsX8_plan.all goodWord = true := by decide +kernel
set_option maxRecDepth 100000 in
theorem ggL_law_X8_plan : GoodIn wsL_law wsX8_plan := ygc yCe_wsL_law _ [8707, 6415, 8708, 787, 1029, 8709, 1028, 1301, 1302, 5, 1303, 8710, 8711, 8712, 8713, 8714, 8715, 8716, 8717, 1047, 1281, 8718, 8719, 8720, 8721, 8722, 8723, 8724, 8725, 8726, 8727, 8960, 8961, 8962, 8963, 8964, 8965, 7698, 7699, 7700, 7701, 7702, 7703, 7936, 7937, 7938, 7939, 1280, 5143, 5376, 5377, 12032, 12033, 12034, 12035, 12036, 12037, 12038, 12039, 12040, 12041, 12042, 12043, 12044, 12045, 12046, 12047, 12048, 12049, 12050, 12051, 12052, 12053, 12054, 12055, 12056, 12057, 12058, 12059, 12060, 12061, 12062, 12063, 12064] rfl yg_wsX8_plan
set_option maxRecDepth 100000 in
theorem gL_law_X8_plan : GoodIn wsL_law (wsV RL 103 RX8 yX8_plan wsX8_plan) := goodIn_app (ygc yCe_wsL_law _ [8704, 8705, 8706, 5] rfl rfl) ggL_law_X8_plan
set_option maxRecDepth 100000 in
theorem yg_wsX7_who : wsX7_who.all goodWord = true := by decide +kernel
set_option maxRecDepth 100000 in
theorem ggL_law_X7_who : GoodIn wsL_law wsX7_who := ygc yCe_wsL_law _ [8969, 15, 5126, 5389, 5390, 5391, 14, 5392, 267, 1288, 2, 1289, 5646, 5647, 5648, 5649, 1807, 1287, 8970, 8971, 8972, 8973, 8454, 8455, 8456, 1808, 271, 8457, 8458, 8459, 8460, 7190, 7191, 7424, 7425, 7426, 7427, 8461, 8462, 8463, 8464, 1806, 3088, 3089, 3090, 3091, 5393, 6158, 11776, 11777, 11778, 11779, 11780, 11781, 11782, 11783, 11784, 12288, 12289, 12290, 12291, 12292, 12293, 12294, 12295, 12296, 12297, 12298, 12299, 12300, 12301, 12302, 12303, 12304, 12305] rfl yg_wsX7_who
set_option maxRecDepth 100000 in
theorem gL_law_X7_who : GoodIn wsL_law (wsV RL 104 RX7 yX7_who wsX7_who) := goodIn_app (ygc yCe_wsL_law _ [8966, 8967, 8968, 2] rfl rfl) ggL_law_X7_who
set_option maxRecDepth 100000 in
theorem yg_wsX8_who : wsX8_who.all goodWord = true := by decide +kernel
set_option maxRecDepth 100000 in
theorem ggL_law_X8_who : GoodIn wsL_law wsX8_who := ygc yCe_wsL_law _ [8977, 6419, 1047, 5633, 5634, 5635, 5, 5636, 1301, 1302, 1303, 5637, 5638, 5639, 5640, 1281, 8718, 8719, 8720, 8721, 787, 8722, 8723, 8724, 8725, 8726, 8727, 8960, 8961, 8962, 8963, 8964, 8965, 7698, 7699, 7700, 7701, 7702, 7703, 7936, 7937, 7938, 7939, 1280, 5143, 5376, 5377, 12032, 12033, 12034, 12035, 12036, 12037, 12038, 12039, 12040, 12041, 12042, 12043, 12044, 12045, 12046, 12047, 12048, 12049, 12050, 12051, 12052, 12053, 12054, 12055, 12056, 12057, 12058, 12059, 12060, 12061, 12062, 12063, 12064] rfl yg_wsX8_who
set_option maxRecDepth 100000 in
theorem gL_law_X8_who : GoodIn wsL_law (wsV RL 107 RX8 yX8_who wsX8_who) := goodIn_app (ygc yCe_wsL_law _ [8974, 8975, 8976, 5] rfl rfl) ggL_law_X8_who
set_option maxRecDepth 100000 in
theorem yg_wsX7_ways : wsX7_ways.all goodWord = true := by decide +kernel
set_option maxRecDepth 100000 in
theorem ggL_law_X7_ways : GoodIn wsL_law wsX7_ways := ygc yCe_wsL_law _ [8981, 15, 5126, 5389, 5390, 5391, 14, 5392, 267, 1288, 2, 1289, 5646, 5647, 5648, 5649, 1807, 1287, 8982, 8211, 8212, 8973, 8454, 8455, 8456, 1808, 271, 8457, 8458, 8459, 8460, 7190, 7191, 7424, 7425, 7426, 7427, 8461, 8462, 8463, 8464, 1806, 3088, 3089, 3090, 3091, 5393, 11776, 11777, 11778, 11779, 11780, 11781, 11782, 11783, 11784, 12288, 12289, 12290, 12291, 12292, 12293, 12294, 12295, 12296, 12297, 12298, 12299, 12300, 12301, 12302, 12303, 12304, 12305] rfl yg_wsX7_ways
set_option maxRecDepth 100000 in
theorem gL_law_X7_ways : GoodIn wsL_law (wsV RL 108 RX7 yX7_ways wsX7_ways) := goodIn_app (ygc yCe_wsL_law _ [8978, 8979, 8980, 2] rfl rfl) ggL_law_X7_ways
set_option maxRecDepth 100000 in
theorem yg_wsX8_ways : wsX8_ways.all goodWord = true := by decide +kernel
set_option maxRecDepth 100000 in
theorem ggL_law_X8_ways : GoodIn wsL_law wsX8_ways := ygc yCe_wsL_law _ [9218, 1047, 5633, 5634, 5635, 5, 5636, 1301, 1302, 1303, 5637, 5638, 5639, 5640, 1281, 8718, 8719, 8720, 8721, 787, 8722, 8723, 8724, 8725, 8726, 8727, 8960, 8961, 8962, 8963, 8964, 8965, 7698, 7699, 7700, 7701, 7702, 7703, 7936, 7937, 7938, 7939, 1280, 5143, 5376, 5377, 12032, 12033, 12034, 12035, 12036, 12037, 12038, 12039, 12040, 12041, 12042, 12043, 12044, 12045, 12046, 12047, 12048, 12049, 12050, 12051, 12052, 12053, 12054, 12055, 12056, 12057, 12058, 12059, 12060, 12061, 12062, 12063, 12064] rfl yg_wsX8_ways
set_option maxRecDepth 100000 in
theorem gL_law_X8_ways : GoodIn wsL_law (wsV RL 111 RX8 yX8_ways wsX8_ways) := goodIn_app (ygc yCe_wsL_law _ [8983, 9216, 9217, 5] rfl rfl) ggL_law_X8_ways
set_option maxRecDepth 100000 in
theorem yg_wsX7_ever : wsX7_ever.all goodWord = true := by decide +kernel
set_option maxRecDepth 100000 in
theorem ggL_law_X7_ever : GoodIn wsL_law wsX7_ever := ygc yCe_wsL_law _ [9222, 15, 5129, 5130, 5384, 9223, 9224, 9225, 14, 9226, 279, 7436, 7189, 7188, 8457, 8458, 8459, 8460, 7190, 7191, 7424, 7425, 7426, 7427, 8461, 8462, 8463, 8464, 267, 1806, 6158, 3090, 2, 3091, 11776, 11777, 11778, 11779, 11780, 11781, 11782, 11783, 11784, 12288, 12289, 12290, 12291, 12292, 12293, 12294, 12295, 12296, 12297, 12298, 12299, 12300, 12301, 12302, 12303, 12304, 12305, 13312, 13313, 13314, 13315, 13316] rfl yg_wsX7_ever
set_option maxRecDepth 100000 in
theorem gL_law_X7_ever : GoodIn wsL_law (wsV RL 112 RX7 yX7_ever wsX7_ever) := goodIn_app (ygc yCe_wsL_law _ [9219, 9220, 9221, 2] rfl rfl) ggL_law_X7_ever
set_option maxRecDepth 100000 in
theorem yg_wsX8_ever : wsX8_ever.all goodWord = true := by decide +kernel
set_option maxRecDepth 100000 in
theorem ggL_law_X8_ever : GoodIn wsL_law wsX8_ever := ygc yCe_wsL_law _ [9230, 8726, 8727, 8960, 5, 8961, 1047, 787, 9231, 9232, 9233, 9234, 9235, 9236, 9237, 9238, 8962, 8963, 8964, 8965, 7698, 7699, 7700, 7701, 7702, 7703, 7936, 7937, 7938, 7939, 1280, 1301, 1302, 1303, 5143, 5376, 5377, 12032, 12033, 12034, 12035, 12036, 12037, 12038, 12039, 12040, 12041, 12042, 12043, 12044, 12045, 12046, 12047, 12048, 12049, 12050, 12051, 12052, 12053, 12054, 12055, 12056, 12057, 12058, 12059, 12060, 12061, 12062, 12063, 12064] rfl yg_wsX8_ever
set_option maxRecDepth 100000 in
theorem gL_law_X8_ever : GoodIn wsL_law (wsV RL 115 RX8 yX8_ever wsX8_ever) := goodIn_app (ygc yCe_wsL_law _ [9227, 9228, 9229, 5] rfl rfl) ggL_law_X8_ever
set_option maxRecDepth 100000 in
theorem yg_wsX7_stop : wsX7_stop.all goodWord = true := by decide +kernel
set_option maxRecDepth 100000 in
theorem ggL_law_X7_stop : GoodIn wsL_law wsX7_stop := ygc yCe_wsL_law _ [9474, 15, 5126, 5384, 1287, 1288, 2, 1289, 6922, 6923, 6924, 6925, 6926, 6927, 6928, 9475, 9476, 9477, 14, 9478, 279, 1809, 9479, 9224, 9225, 9226, 7436, 7189, 7188, 8457, 8458, 8459, 8460, 7190, 7191, 7424, 7425, 7426, 7427, 8461, 8462, 8463, 8464, 267, 1806, 11776, 11777, 11778, 11779, 11780, 11781, 11782, 11783, 11784, 12288, 12289, 12290, 12291, 12292, 12293, 12294, 12295, 12296, 12297, 12298, 12299, 12300, 12301, 12302, 12303, 12304, 12305, 13312, 13313, 13314, 13315, 13316] rfl yg_wsX7_stop
set_option maxRecDepth 100000 in
theorem gL_law_X7_stop : GoodIn wsL_law (wsV RL 116 RX7 yX7_stop wsX7_stop) := goodIn_app (ygc yCe_wsL_law _ [9239, 9472, 9473, 2] rfl rfl) ggL_law_X7_stop
set_option maxRecDepth 100000 in
theorem yg_wsX8_stop : wsX8_stop.all goodWord = true := by decide +kernel
set_option maxRecDepth 100000 in
theorem ggL_law_X8_stop : GoodIn wsL_law wsX8_stop := ygc yCe_wsL_law _ [9483, 8709, 1047, 1301, 1302, 5, 1303, 8726, 8727, 8960, 8961, 787, 7173, 7174, 7175, 9231, 9232, 9233, 9234, 9235, 9236, 9237, 9238, 8962, 8963, 8964, 8965, 7698, 7699, 7700, 7701, 7702, 7703, 7936, 7937, 7938, 7939, 1280, 5143, 5376, 5377, 12032, 12033, 12034, 12035, 12036, 12037, 12038, 12039, 12040, 12041, 12042, 12043, 12044, 12045, 12046, 12047, 12048, 12049, 12050, 12051, 12052, 12053, 12054, 12055, 12056, 12057, 12058, 12059, 12060, 12061, 12062, 12063, 12064] rfl yg_wsX8_stop
set_option maxRecDepth 100000 in
theorem gL_law_X8_stop : GoodIn wsL_law (wsV RL 119 RX8 yX8_stop wsX8_stop) := goodIn_app (ygc yCe_wsL_law _ [9480, 9481, 9482, 5] rfl rfl) ggL_law_X8_stop
set_option maxRecDepth 100000 in
theorem yg_wsX7_best : wsX7_best.all goodWord = true := by decide +kernel
set_option maxRecDepth 100000 in
theorem ggL_law_X7_best : GoodIn wsL_law wsX7_best := ygc yCe_wsL_law _ [9487, 16, 15, 5126, 1287, 1288, 2, 1289, 3606, 3607, 3840, 14, 3841, 267, 1806, 1807, 1808, 269, 3842, 3843, 3844, 3845, 270, 271, 272, 273, 274, 275, 279, 516, 1811, 1812, 1813, 1814, 3846, 3847, 3848, 278, 3849, 3590, 520, 3850, 521, 522, 523, 3851, 3852, 3853, 515, 3854, 3601, 527, 3855, 528, 7180, 7181, 7182, 7183, 7184, 7185, 7186, 7187, 512, 1809, 7188, 7189, 7190, 7191, 7424, 7425, 7426, 7427, 7428, 7429, 7430, 7431, 7432, 7433, 7434, 7435, 7436, 7437, 3088, 3089, 7438, 3587, 3588, 3589, 7439, 7440, 7441, 7442, 7443, 3081, 3082, 3083, 7444, 7445, 7446, 5395, 5396, 6918, 6919, 6920, 6921, 11776, 11777, 11778, 11779, 11780, 11781, 11782, 11783, 11784, 12288, 12289, 12290, 12291, 12292, 12293, 12294, 12295, 12296, 12297, 12298, 12299, 12300, 12301, 12302, 12303, 12304, 12305, 13312, 13313, 13314, 13315, 13316, 13568, 13569, 13570] rfl yg_wsX7_best
set_option maxRecDepth 100000 in
theorem gL_law_X7_best : GoodIn wsL_law (wsV RL 120 RX7 yX7_best wsX7_best) := goodIn_app (ygc yCe_wsL_law _ [9484, 9485, 9486, 2] rfl rfl) ggL_law_X7_best
set_option maxRecDepth 100000 in
theorem yg_wsX8_best : wsX8_best.all goodWord = true := by decide +kernel
set_option maxRecDepth 100000 in
theorem ggL_law_X8_best : GoodIn wsL_law wsX8_best := ygc yCe_wsL_law _ [9491, 9492, 7684, 1047, 1301, 1302, 5, 1303, 7685, 7686, 7687, 7688, 788, 787, 7689, 7690, 7691, 7692, 7693, 7694, 7695, 7696, 7697, 1027, 7698, 7699, 7700, 7701, 7702, 7703, 7936, 7937, 7938, 7939, 1280, 7940, 7941, 7942, 7943, 7944, 7945, 7946, 7947, 7948, 7949, 7950, 7951, 790, 5143, 5376, 5377, 6933, 6934, 6935, 7168, 7169, 7170, 7171, 7172, 12032, 12033, 12034, 12035, 12036, 12037, 12038, 12039, 12040, 12041, 12042, 12043, 12044, 12045, 12046, 12047, 12048, 12049, 12050, 12051, 12052, 12053, 12054, 12055, 12056, 12057, 12058, 12059, 12060, 12061, 12062, 12063, 12064] rfl yg_wsX8_best
set_option maxRecDepth 100000 in
theorem gL_law_X8_best : GoodIn wsL_law (wsV RL 123 RX8 yX8_best wsX8_best) := goodIn_app (ygc yCe_wsL_law _ [9488, 9489, 9490, 5] rfl rfl) ggL_law_X8_best
set_option maxRecDepth 100000 in
theorem yg_wsX7_mean : wsX7_mean.all goodWord = true := by decide +kernel
set_option maxRecDepth 100000 in
theorem ggL_law_X7_mean : GoodIn wsL_law wsX7_mean := ygc yCe_wsL_law _ [9728, 15, 9729, 5126, 5387, 9730, 5389, 5390, 5391, 14, 5392, 267, 1288, 2, 1289, 1287, 9731, 9732, 9733, 9734, 269, 273, 9735, 9736, 9737, 9738, 274, 272, 1808, 3088, 3089, 7190, 7191, 7424, 7425, 7426, 7427, 7428, 7429, 7430, 7431, 1806, 9739, 9740, 9741, 11776, 11777, 11778, 11779, 11780, 11781, 11782, 11783, 11784, 12288, 12289, 12290, 12291, 12292, 12293, 12294, 12295, 12296, 12297, 12298, 12299, 12300, 12301, 12302, 12303, 12304, 12305] rfl yg_wsX7_mean
set_option maxRecDepth 100000 in
theorem gL_law_X7_mean : GoodIn wsL_law (wsV RL 124 RX7 yX7_mean wsX7_mean) := goodIn_app (ygc yCe_wsL_law _ [9493, 9494, 9495, 2] rfl rfl) ggL_law_X7_mean
set_option maxRecDepth 100000 in
theorem yg_wsX8_mean : wsX8_mean.all goodWord = true := by decide +kernel
set_option maxRecDepth 100000 in
theorem ggL_law_X8_mean : GoodIn wsL_law wsX8_mean := ygc yCe_wsL_law _ [9745, 9746, 1047, 787, 790, 6415, 5633, 5634, 5635, 5, 5636, 1301, 1302, 1303, 9747, 9748, 9749, 9750, 7698, 7699, 7700, 7701, 7702, 7703, 7936, 7937, 7938, 7939, 1280, 5143, 5376, 5377, 9751, 9984, 9985, 9986, 9987, 9988, 12032, 12033, 12034, 12035, 12036, 12037, 12038, 12039, 12040, 12041, 12042, 12043, 12044, 12045, 12046, 12047, 12048, 12049, 12050, 12051, 12052, 12053, 12054, 12055, 12056, 12057, 12058, 12059, 12060, 12061, 12062, 12063, 12064] rfl yg_wsX8_mean
set_option maxRecDepth 100000 in
theorem gL_law_X8_mean : GoodIn wsL_law (wsV RL 128 RX8 yX8_mean wsX8_mean) := goodIn_app (ygc yCe_wsL_law _ [9742, 9743, 9744, 5] rfl rfl) ggL_law_X8_mean
set_option maxRecDepth 100000 in
theorem yg_wsX7_luck : wsX7_luck.all goodWord = true := by decide +kernel
set_option maxRecDepth 100000 in
theorem ggL_law_X7_luck : GoodIn wsL_law wsX7_luck := ygc yCe_wsL_law _ [9992, 15, 9729, 5126, 5389, 5390, 5391, 14, 5392, 267, 1288, 2, 1289, 1287, 9993, 9994, 9995, 9996, 274, 3088, 3089, 9997, 9998, 9999, 10000, 271, 273, 270, 9735, 9736, 9737, 9738, 272, 1808, 7190, 7191, 7424, 7425, 7426, 7427, 7428, 7429, 7430, 7431, 1806, 10001, 9732, 9733, 9734, 269, 9739, 9740, 9741, 11776, 11777, 11778, 11779, 11780, 11781, 11782, 11783, 11784, 12288, 12289, 12290, 12291, 12292, 12293, 12294, 12295, 12296, 12297, 12298, 12299, 12300, 12301, 12302, 12303, 12304, 12305] rfl yg_wsX7_luck
set_option maxRecDepth 100000 in
theorem gL_law_X7_luck : GoodIn wsL_law (wsV RL 129 RX7 yX7_luck wsX7_luck) := goodIn_app (ygc yCe_wsL_law _ [9989, 9990, 9991, 2] rfl rfl) ggL_law_X7_luck
set_option maxRecDepth 100000 in
theorem yg_wsX8_luck : wsX8_luck.all goodWord = true := by decide +kernel
set_option maxRecDepth 100000 in
theorem ggL_law_X8_luck : GoodIn wsL_law wsX8_luck := ygc yCe_wsL_law _ [10005, 9746, 1047, 6415, 787, 790, 5633, 5634, 5635, 5, 5636, 1301, 1302, 1303, 9747, 9748, 9749, 9750, 7698, 7699, 7700, 7701, 7702, 7703, 7936, 7937, 7938, 7939, 1280, 5143, 5376, 5377, 9751, 9984, 9985, 9986, 9987, 9988, 12032, 12033, 12034, 12035, 12036, 12037, 12038, 12039, 12040, 12041, 12042, 12043, 12044, 12045, 12046, 12047, 12048, 12049, 12050, 12051, 12052, 12053, 12054, 12055, 12056, 12057, 12058, 12059, 12060, 12061, 12062, 12063, 12064] rfl yg_wsX8_luck
set_option maxRecDepth 100000 in
theorem gL_law_X8_luck : GoodIn wsL_law (wsV RL 132 RX8 yX8_luck wsX8_luck) := goodIn_app (ygc yCe_wsL_law _ [10002, 10003, 10004, 5] rfl rfl) ggL_law_X8_luck
set_option maxRecDepth 100000 in
theorem yg_wsX7_drift : wsX7_drift.all goodWord = true := by decide +kernel
set_option maxRecDepth 100000 in
theorem ggL_law_X7_drift : GoodIn wsL_law wsX7_drift := ygc yCe_wsL_law _ [10241, 16, 15, 10242, 5126, 10243, 3081, 3082, 3083, 5136, 1287, 1288, 2, 1289, 3606, 3607, 3840, 14, 3841, 267, 1806, 1807, 1808, 269, 3842, 3843, 3844, 3845, 270, 271, 272, 273, 274, 275, 279, 516, 1811, 1812, 1813, 1814, 3846, 3847, 3848, 278, 3849, 3590, 520, 3850, 521, 522, 523, 3851, 3852, 3853, 515, 3854, 3601, 527, 3855, 528, 10244, 10245, 10246, 10247, 10248, 10249, 10250, 10251, 10252, 5390, 5391, 5392, 7438, 3587, 3588, 3589, 8196, 7185, 7186, 7187, 512, 1809, 7188, 7189, 7190, 7191, 7424, 7425, 7426, 7427, 7428, 7429, 7430, 7431, 7432, 7433, 7434, 7435, 7436, 7437, 3088, 3089, 7439, 7440, 7441, 7442, 7443, 7444, 7445, 7446, 5395, 5396, 11776, 11777, 11778, 11779, 11780, 11781, 11782, 11783, 11784, 12288, 12289, 12290, 12291, 12292, 12293, 12294, 12295, 12296, 12297, 12298, 12299, 12300, 12301, 12302, 12303, 12304, 12305, 13312, 13313, 13314, 13315, 13316, 13568, 13569, 13570] rfl yg_wsX7_drift
set_option maxRecDepth 100000 in
theorem gL_law_X7_drift : GoodIn wsL_law (wsV RL 133 RX7 yX7_drift wsX7_drift) := goodIn_app (ygc yCe_wsL_law _ [10006, 10007, 10240, 2] rfl rfl) ggL_law_X7_drift
set_option maxRecDepth 100000 in
theorem yg_wsX8_drift : wsX8_drift.all goodWord = true := by decide +kernel
set_option maxRecDepth 100000 in
theorem ggL_law_X8_drift : GoodIn wsL_law wsX8_drift := ygc yCe_wsL_law _ [10256, 7683, 7684, 788, 10257, 1047, 1301, 1302, 5, 1303, 7685, 7686, 7687, 7688, 787, 7693, 7694, 7695, 7696, 7697, 1027, 7698, 7699, 7700, 7701, 7702, 7703, 7936, 7937, 7938, 7939, 1280, 7940, 7941, 7942, 7943, 7944, 7945, 7946, 7947, 7948, 7949, 7950, 7951, 790, 5143, 5376, 5377, 12032, 12033, 12034, 12035, 12036, 12037, 12038, 12039, 12040, 12041, 12042, 12043, 12044, 12045, 12046, 12047, 12048, 12049, 12050, 12051, 12052, 12053, 12054, 12055, 12056, 12057, 12058, 12059, 12060, 12061, 12062, 12063, 12064] rfl yg_wsX8_drift
set_option maxRecDepth 100000 in
theorem gL_law_X8_drift : GoodIn wsL_law (wsV RL 136 RX8 yX8_drift wsX8_drift) := goodIn_app (ygc yCe_wsL_law _ [10253, 10254, 10255, 5] rfl rfl) ggL_law_X8_drift
set_option maxRecDepth 100000 in
theorem yg_wsX7_keep : wsX7_keep.all goodWord = true := by decide +kernel
set_option maxRecDepth 100000 in
theorem ggL_law_X7_keep : GoodIn wsL_law wsX7_keep := ygc yCe_wsL_law _ [10261, 1550, 17, 15, 1287, 1288, 2, 1289, 5393, 3088, 3089, 3606, 3607, 3840, 14, 3841, 267, 1806, 1807, 1808, 269, 3842, 3843, 3844, 3845, 270, 271, 272, 273, 274, 275, 279, 516, 1811, 1812, 1813, 1814, 3846, 3847, 3848, 278, 3849, 3590, 520, 3850, 521, 522, 523, 3851, 3852, 3853, 515, 3854, 3601, 527, 3855, 528, 6158, 3090, 3091, 11776, 11777, 11778, 11779, 11780, 11781, 11782, 11783, 11784, 12288, 12289, 12290, 12291, 12292, 12293, 12294, 12295, 12296, 12297, 12298, 12299, 12300, 12301, 12302, 12303, 12304, 12305, 13312, 13313, 13314, 13315, 13316, 13568, 13569, 13570] rfl yg_wsX7_keep
set_option maxRecDepth 100000 in
theorem gL_law_X7_keep : GoodIn wsL_law (wsV RL 137 RX7 yX7_keep wsX7_keep) := goodIn_app (ygc yCe_wsL_law _ [10258, 10259, 10260, 2] rfl rfl) ggL_law_X7_keep
set_option maxRecDepth 100000 in
theorem yg_wsX8_keep : wsX8_keep.all goodWord = true := by decide +kernel
set_option maxRecDepth 100000 in
theorem ggL_law_X8_keep : GoodIn wsL_law wsX8_keep := ygc yCe_wsL_law _ [10497, 789, 1301, 1302, 5, 1303, 5143, 5376, 5377, 10498, 10499, 10500, 10501, 787, 12032, 12033, 12034, 12035, 12036, 12037, 12038, 12039, 12040, 12041, 12042, 12043, 12044, 12045, 12046, 12047, 12048, 12049, 12050, 12051, 12052, 12053, 12054, 12055, 12056, 12057, 12058, 12059, 12060, 12061, 12062, 12063, 12064] rfl yg_wsX8_keep
set_option maxRecDepth 100000 in
theorem gL_law_X8_keep : GoodIn wsL_law (wsV RL 140 RX8 yX8_keep wsX8_keep) := goodIn_app (ygc yCe_wsL_law _ [10262, 10263, 10496, 5] rfl rfl) ggL_law_X8_keep
set_option maxRecDepth 100000 in
theorem yg_wsX7_back : wsX7_back.all goodWord = true := by decide +kernel
set_option maxRecDepth 100000 in
theorem ggL_law_X7_back : GoodIn wsL_law wsX7_back := ygc yCe_wsL_law _ [10505, 1550, 15, 17, 5133, 1287, 1288, 2, 1289, 5393, 3088, 3089, 3606, 3607, 3840, 14, 3841, 267, 1806, 1807, 1808, 269, 3842, 3843, 3844, 3845, 270, 271, 272, 273, 274, 275, 279, 516, 1811, 1812, 1813, 1814, 3846, 3847, 3848, 278, 3849, 3590, 520, 3850, 521, 522, 523, 3851, 3852, 3853, 515, 3854, 3601, 527, 3855, 528, 11776, 11777, 11778, 11779, 11780, 11781, 11782, 11783, 11784, 12288, 12289, 12290, 12291, 12292, 12293, 12294, 12295, 12296, 12297, 12298, 12299, 12300, 12301, 12302, 12303, 12304, 12305, 13312, 13313, 13314, 13315, 13316, 13568, 13569, 13570] rfl yg_wsX7_back
set_option maxRecDepth 100000 in
theorem gL_law_X7_back : GoodIn wsL_law (wsV RL 141 RX7 yX7_back wsX7_back) := goodIn_app (ygc yCe_wsL_law _ [10502, 10503, 10504, 2] rfl rfl) ggL_law_X7_back
set_option maxRecDepth 100000 in
theorem yg_wsX8_back : wsX8_back.all goodWord = true := by decide +kernel
set_option maxRecDepth 100000 in
theorem ggL_law_X8_back : GoodIn wsL_law wsX8_back := ygc yCe_wsL_law _ [10509, 789, 787, 1301, 1302, 5, 1303, 10498, 10499, 10500, 10501, 12032, 12033, 12034, 12035, 12036, 12037, 12038, 12039, 12040, 12041, 12042, 12043, 12044, 12045, 12046, 12047, 12048, 12049, 12050, 12051, 12052, 12053, 12054, 12055, 12056, 12057, 12058, 12059, 12060, 12061, 12062, 12063, 12064] rfl yg_wsX8_back
set_option maxRecDepth 100000 in
theorem gL_law_X8_back : GoodIn wsL_law (wsV RL 144 RX8 yX8_back wsX8_back) := goodIn_app (ygc yCe_wsL_law _ [10506, 10507, 10508, 5] rfl rfl) ggL_law_X8_back
set_option maxRecDepth 100000 in
theorem yg_wsX7_sheet : wsX7_sheet.all goodWord = true := by decide +kernel
set_option maxRecDepth 100000 in
theorem ggL_law_X7_sheet : GoodIn wsL_law wsX7_sheet := ygc yCe_wsL_law _ [10513, 261, 10514, 10515, 2, 10516, 1287, 1288, 1289, 10517, 10518, 10519, 10752, 10753, 10754, 263, 10755, 781, 10756, 782, 11776, 11777, 11778, 11779, 11780, 11781, 11782, 11783, 11784, 13056, 13057, 13058] rfl yg_wsX7_sheet
set_option maxRecDepth 100000 in
theorem gL_law_X7_sheet : GoodIn wsL_law (wsV RL 145 RX7 yX7_sheet wsX7_sheet) := goodIn_app (ygc yCe_wsL_law _ [10510, 10511, 10512, 2] rfl rfl) ggL_law_X7_sheet
set_option maxRecDepth 100000 in
theorem yg_wsX8_sheet : wsX8_sheet.all goodWord = true := by decide +kernel
set_option maxRecDepth 100000 in
theorem ggL_law_X8_sheet : GoodIn wsL_law wsX8_sheet := ygc yCe_wsL_law _ [10760, 1030, 1031, 1032, 10761, 10762, 5, 10763, 5898, 10764, 1301, 1302, 1303, 12032, 12033, 12034, 12035, 12036, 12037, 12038, 12039, 12040, 12041, 12042, 12043, 12044, 12045, 12046, 12047, 12048, 12049, 12050, 12051, 12052, 12053, 12054, 12055, 12056, 12057, 12058, 12059, 12060, 12061, 12062, 12063, 12064] rfl yg_wsX8_sheet
set_option maxRecDepth 100000 in
theorem gL_law_X8_sheet : GoodIn wsL_law (wsV RL 148 RX8 yX8_sheet wsX8_sheet) := goodIn_app (ygc yCe_wsL_law _ [10757, 10758, 10759, 5] rfl rfl) ggL_law_X8_sheet
set_option maxRecDepth 100000 in
theorem yg_wsX7_lay : wsX7_lay.all goodWord = true := by decide +kernel
set_option maxRecDepth 100000 in
theorem ggL_law_X7_lay : GoodIn wsL_law wsX7_lay := ygc yCe_wsL_law _ [10768, 261, 10514, 10515, 2, 10516, 1287, 1288, 1289, 10769, 10770, 10771, 263, 10772, 10756, 10773, 10774, 10775, 11008, 781, 11009, 11010, 11011, 11012, 782, 11776, 11777, 11778, 11779, 11780, 11781, 11782, 11783, 11784, 13056, 13057, 13058] rfl yg_wsX7_lay
set_option maxRecDepth 100000 in
theorem gL_law_X7_lay : GoodIn wsL_law (wsV RL 149 RX7 yX7_lay wsX7_lay) := goodIn_app (ygc yCe_wsL_law _ [10765, 10766, 10767, 2] rfl rfl) ggL_law_X7_lay
set_option maxRecDepth 100000 in
theorem yg_wsX8_lay : wsX8_lay.all goodWord = true := by decide +kernel
set_option maxRecDepth 100000 in
theorem ggL_law_X8_lay : GoodIn wsL_law wsX8_lay := ygc yCe_wsL_law _ [11016, 1030, 1031, 1032, 10761, 10762, 5, 10763, 5898, 10764, 1301, 1302, 1303, 12032, 12033, 12034, 12035, 12036, 12037, 12038, 12039, 12040, 12041, 12042, 12043, 12044, 12045, 12046, 12047, 12048, 12049, 12050, 12051, 12052, 12053, 12054, 12055, 12056, 12057, 12058, 12059, 12060, 12061, 12062, 12063, 12064] rfl yg_wsX8_lay
set_option maxRecDepth 100000 in
theorem gL_law_X8_lay : GoodIn wsL_law (wsV RL 152 RX8 yX8_lay wsX8_lay) := goodIn_app (ygc yCe_wsL_law _ [11013, 11014, 11015, 5] rfl rfl) ggL_law_X8_lay
set_option maxRecDepth 100000 in
theorem yg_wsX7_read : wsX7_read.all goodWord = true := by decide +kernel
set_option maxRecDepth 100000 in
theorem ggL_law_X7_read : GoodIn wsL_law wsX7_read := ygc yCe_wsL_law _ [11020, 261, 15, 5129, 5130, 11021, 11022, 10514, 10515, 2, 10516, 1287, 1288, 1289, 10517, 10518, 10519, 11023, 11024, 11025, 263, 11026, 781, 10773, 10774, 10775, 11008, 10769, 10770, 10771, 10772, 10756, 11027, 11028, 11029, 11030, 11031, 6421, 6422, 6423, 5389, 5390, 5391, 14, 5392, 267, 6407, 6408, 6409, 6656, 3584, 3585, 5646, 5647, 5648, 5649, 1807, 6657, 3587, 3588, 278, 3589, 3590, 520, 521, 522, 523, 11776, 11777, 11778, 11779, 11780, 11781, 11782, 11783, 11784, 12288, 12289, 12290, 12291, 12292, 12293, 12294, 12295, 12296, 12297, 12298, 12299, 12300, 12301, 12302, 12303, 12304, 12305, 13312, 13313, 13314, 13315, 13316, 13056, 13057, 13058] rfl yg_wsX7_read
set_option maxRecDepth 100000 in
theorem gL_law_X7_read : GoodIn wsL_law (wsV RL 153 RX7 yX7_read wsX7_read) := goodIn_app (ygc yCe_wsL_law _ [11017, 11018, 11019, 2] rfl rfl) ggL_law_X7_read
set_option maxRecDepth 100000 in
theorem yg_wsX8_read : wsX8_read.all goodWord = true := by decide +kernel
set_option maxRecDepth 100000 in
theorem ggL_law_X8_read : GoodIn wsL_law wsX8_read := ygc yCe_wsL_law _ [11267, 6415, 787, 1030, 1031, 1032, 11268, 10761, 10762, 5, 10763, 5898, 10764, 1301, 1302, 1303, 11269, 6659, 6660, 6661, 5633, 5634, 5635, 5636, 1047, 6416, 6417, 6418, 6419, 6662, 6663, 6664, 5637, 5638, 5639, 5640, 1281, 12032, 12033, 12034, 12035, 12036, 12037, 12038, 12039, 12040, 12041, 12042, 12043, 12044, 12045, 12046, 12047, 12048, 12049, 12050, 12051, 12052, 12053, 12054, 12055, 12056, 12057, 12058, 12059, 12060, 12061, 12062, 12063, 12064] rfl yg_wsX8_read
set_option maxRecDepth 100000 in
theorem gL_law_X8_read : GoodIn wsL_law (wsV RL 156 RX8 yX8_read wsX8_read) := goodIn_app (ygc yCe_wsL_law _ [11264, 11265, 11266, 5] rfl rfl) ggL_law_X8_read
set_option maxRecDepth 100000 in
theorem yg_wsX7_torn : wsX7_torn.all goodWord = true := by decide +kernel
set_option maxRecDepth 100000 in
theorem ggL_law_X7_torn : GoodIn wsL_law wsX7_torn := ygc yCe_wsL_law _ [11273, 11022, 11776, 11777, 11778, 11779, 11780, 11781, 11782, 11783, 11784] rfl yg_wsX7_torn
set_option maxRecDepth 100000 in
theorem gL_law_X7_torn : GoodIn wsL_law (wsV RL 157 RX7 yX7_torn wsX7_torn) := goodIn_app (ygc yCe_wsL_law _ [11270, 11271, 11272, 2] rfl rfl) ggL_law_X7_torn
set_option maxRecDepth 100000 in
theorem yg_wsX8_torn : wsX8_torn.all goodWord = true := by decide +kernel
set_option maxRecDepth 100000 in
theorem ggL_law_X8_torn : GoodIn wsL_law wsX8_torn := ygc yCe_wsL_law _ [11277, 11268, 12032, 12033, 12034, 12035, 12036, 12037, 12038, 12039, 12040, 12041, 12042, 12043, 12044, 12045, 12046, 12047, 12048, 12049, 12050, 12051, 12052, 12053, 12054, 12055, 12056, 12057, 12058, 12059, 12060, 12061, 12062, 12063, 12064] rfl yg_wsX8_torn
set_option maxRecDepth 100000 in
theorem gL_law_X8_torn : GoodIn wsL_law (wsV RL 160 RX8 yX8_torn wsX8_torn) := goodIn_app (ygc yCe_wsL_law _ [11274, 11275, 11276, 5] rfl rfl) ggL_law_X8_torn
set_option maxRecDepth 100000 in
theorem yg_wsX7_count : wsX7_count.all goodWord = true := by decide +kernel
set_option maxRecDepth 100000 in
theorem ggL_law_X7_count : GoodIn wsL_law wsX7_count := ygc yCe_wsL_law _ [11281, 15, 5384, 1550, 23, 1286, 261, 11282, 5129, 11283, 11284, 11285, 14, 11286, 275, 11287, 11520, 11521, 11522, 267, 270, 6922, 6923, 6924, 6925, 6926, 6927, 6928, 11523, 10774, 10775, 263, 11008, 781, 11524, 11525, 11526, 278, 11527, 3590, 522, 11776, 11777, 11778, 11779, 11780, 11781, 11782, 11783, 11784, 12288, 12289, 12290, 12291, 12292, 12293, 12294, 12295, 12296, 12297, 12298, 12299, 12300, 12301, 12302, 12303, 12304, 12305, 13824, 13825, 13056, 13057, 13058, 13312, 13313, 13314, 13315, 13316] rfl yg_wsX7_count
set_option maxRecDepth 100000 in
theorem gL_law_X7_count : GoodIn wsL_law (wsV RL 161 RX7 yX7_count wsX7_count) := goodIn_app (ygc yCe_wsL_law _ [11278, 11279, 11280, 2] rfl rfl) ggL_law_X7_count
set_option maxRecDepth 100000 in
theorem yg_wsX8_count : wsX8_count.all goodWord = true := by decide +kernel
set_option maxRecDepth 100000 in
theorem ggL_law_X8_count : GoodIn wsL_law wsX8_count := ygc yCe_wsL_law _ [11531, 787, 1047, 789, 1300, 1030, 1031, 5143, 5376, 5, 5377, 8726, 8727, 8960, 8961, 7173, 7174, 7175, 12032, 12033, 12034, 12035, 12036, 12037, 12038, 12039, 12040, 12041, 12042, 12043, 12044, 12045, 12046, 12047, 12048, 12049, 12050, 12051, 12052, 12053, 12054, 12055, 12056, 12057, 12058, 12059, 12060, 12061, 12062, 12063, 12064] rfl yg_wsX8_count
set_option maxRecDepth 100000 in
theorem gL_law_X8_count : GoodIn wsL_law (wsV RL 164 RX8 yX8_count wsX8_count) := goodIn_app (ygc yCe_wsL_law _ [11528, 11529, 11530, 5] rfl rfl) ggL_law_X8_count
end
section
noncomputable def ysh7 : List yH := [.inl 7, .inr (2, 2), .inl 1, .inl 3, .inr (0, 160), .inl 0, .inr (1, 16), .inr (0, 16), .inr (3, 4), .inl 2, .inr (0, 40), .inl 2, .inr (0, 40), .inl 2, .inr (0, 40), .inl 2, .inr (0, 40), .inl 4, .inr (0, 5), .inr (0, 7), .inr (0, 7), .inr (0, 7), .inr (0, 7), .inr (0, 7), .inr (0, 35), .inl 5, .inr (0, 10), .inr (0, 10), .inr (0, 10), .inr (0, 10), .inl 5, .inr (0, 10), .inr (0, 10), .inr (0, 10), .inr (0, 10), .inl 6, .inr (0, 4), .inr (0, 4), .inl 4, .inr (0, 5), .inr (0, 7), .inr (0, 7), .inr (0, 7), .inr (0, 7), .inr (0, 7), .inr (0, 35), .inl 5, .inr (0, 10), .inr (0, 10), .inr (0, 10), .inr (0, 10), .inl 5, .inr (0, 10), .inr (0, 10), .inr (0, 10), .inr (0, 10), .inl 6, .inr (0, 4), .inr (0, 4), .inl 4, .inr (0, 5), .inr (0, 7), .inr (0, 7), .inr (0, 7), .inr (0, 7), .inr (0, 7), .inr (0, 35), .inl 5, .inr (0, 10), .inr (0, 10), .inr (0, 10), .inr (0, 10), .inl 5, .inr (0, 10), .inr (0, 10), .inr (0, 10), .inr (0, 10), .inl 6, .inr (0, 4), .inr (0, 4), .inl 4, .inr (0, 5), .inr (0, 7), .inr (0, 7), .inr (0, 7), .inr (0, 7), .inr (0, 7), .inr (0, 35), .inl 5, .inr (0, 10), .inr (0, 10), .inr (0, 10), .inr (0, 10), .inl 5, .inr (0, 10), .inr (0, 10), .inr (0, 10), .inr (0, 10), .inl 6, .inr (0, 4), .inr (0, 4)]
noncomputable def ysh8 : List yH := [.inl 8, .inr (0, 393), .inr (0, 131), .inr (1, 2), .inr (0, 5), .inr (0, 131), .inr (0, 5), .inr (0, 3), .inr (0, 160), .inr (0, 40), .inr (0, 700), .inr (0, 11216), .inr (0, 4), .inr (0, 4), .inr (0, 160)]
theorem ysh7_R : yshR ysh7 := ⟨rfl, rfl, rfl⟩
/-- references: those that never change by the table, the others by the list -/
noncomputable def yrf (sh : List yH) (o : List (Nat × Nat)) (i k : Nat) : Nat := match sh[i]? with
  | some (.inl ci) => (match yfx ci i k with
    | some j => j
    | none => (zlk o (100 * i + k)).getD 0)
  | _ => (zlk o (100 * i + k)).getD 0
noncomputable def y7o : List (Nat × Nat) := [(100, 59), (101, 80), (800, 9), (801, 11), (802, 13), (803, 15), (1711, 25), (1712, 30), (3811, 46), (3812, 51), (5911, 67), (5912, 72), (8011, 88), (8012, 93)]
noncomputable def y7S : yS := (fun i k => bif Nat.beq i 17 || Nat.beq i 38 || Nat.beq i 59 || Nat.beq i 80 then (bif Nat.beq k 0 then 3 else 0) else bif Nat.beq i 9 || Nat.beq i 11 || Nat.beq i 13 || Nat.beq i 15 then (bif Nat.beq k 0 then -1 else 0) else 0, yrf ysh7 y7o)
noncomputable def y8S (ph : Nat → Nat → Int) : yS := (fun i k => bif Nat.beq i 0 then 0 else ph i k, yrf ysh8 [])
noncomputable def yokB (sh : List yH) (g : Nat → Nat → Nat) : Bool := (List.range sh.length).all (fun i => match sh[i]? with
  | some (.inl ci) => (List.range (yct.1 ci).length).all (fun k => match (yct.1 ci)[k]? with
    | some (some h) => (match sh[g i k]? with
      | some h' => yHeq h' h
      | none => false)
    | _ => true)
  | some (.inr x) => bif Nat.ble 2 x.1 then (List.range x.2).all (fun j => match sh[g i j]? with
      | some h' => yHeq h' (yek x.1)
      | none => false) else true
  | none => true)
theorem yokS_B {sh : List yH} {o : List (Nat × Nat)} {g : Nat → Nat → Int} (h1 : ∀ i k, yI (g i k)) (hb : yokB sh (yrf sh o) = true) : yokS yct sh (g, yrf sh o) := by
  have hi : ∀ {i : Nat} {h : yH}, sh[i]? = some h → i ∈ List.range sh.length := fun h => List.mem_range.mpr (List.getElem?_eq_some_iff.mp h).1
  refine ⟨h1, fun i ci k h a b => ?_, fun i kd n j a b c => ?_, fun i ci k j a b => ?_⟩
  · have q := List.all_eq_true.mp hb i (hi a)
    simp only [a] at q
    have q2 := List.all_eq_true.mp q k (List.mem_range.mpr (List.getElem?_eq_some_iff.mp b).1)
    simp only [b] at q2
    show sh[yrf sh o i k]? = some h
    cases e : sh[yrf sh o i k]? with
    | none => rw [e] at q2; cases q2
    | some h' => rw [e] at q2; rw [yHeq_ok q2]
  · have q := List.all_eq_true.mp hb i (hi a)
    simp only [a] at q
    rw [show Nat.ble 2 kd = true from Nat.ble_eq_true_of_le b, cond_true] at q
    have q2 := List.all_eq_true.mp q j (List.mem_range.mpr c)
    show sh[yrf sh o i j]? = some (yek kd)
    cases e : sh[yrf sh o i j]? with
    | none => rw [e] at q2; cases q2
    | some h' => rw [e] at q2; rw [yHeq_ok q2]
  · show yrf sh o i k = j
    have b : yfx ci i k = some j := b
    unfold yrf
    simp only [a, b]
set_option maxRecDepth 100000 in
theorem y7_B : yokB ysh7 (yrf ysh7 y7o) = true := by decide +kernel
set_option maxRecDepth 100000 in
theorem y8_B : yokB ysh8 (yrf ysh8 []) = true := by decide +kernel
theorem y7S_n (i k : Nat) : y7S.1 i k = 0 ∨ y7S.1 i k = 3 ∨ y7S.1 i k = -1 := by
  unfold y7S
  dsimp only
  cases (Nat.beq i 17 || Nat.beq i 38 || Nat.beq i 59 || Nat.beq i 80) <;> cases (Nat.beq i 9 || Nat.beq i 11 || Nat.beq i 13 || Nat.beq i 15) <;> cases Nat.beq k 0 <;> simp
theorem y7S_ok : yokS yct ysh7 y7S := yokS_B (fun i k => by
  have q := y7S_n i k
  unfold yI
  show -2147483648 ≤ y7S.1 i k ∧ y7S.1 i k ≤ 2147483647
  omega) y7_B
end
section
noncomputable def y7p : List Nat := [0, 43, 44, 45, 46, 47, 48, 49, 50, 93, 94, 95, 96, 97, 98, 99, 100, 1, 2, 3, 4, 5, 6, 7, 8, 9, 10, 11, 12, 13, 14, 15, 16, 17, 18, 19, 20, 21, 22, 23, 24, 25, 26, 27, 28, 29, 30, 31, 32, 33, 34, 35, 36, 37, 38, 39, 40, 41, 42, 51, 52, 53, 54, 55, 56, 57, 58, 59, 60, 61, 62, 63, 64, 65, 66, 67, 68, 69, 70, 71, 72, 73, 74, 75, 76, 77, 78, 79, 80, 81, 82, 83, 84, 85, 86, 87, 88, 89, 90, 91, 92]
noncomputable def y7pi (i : Nat) : Nat := y7p.getD i 0
section Y7C
variable {D : va_G} {kA : Nat → ClassId} {f : Nat → Nat} {H : Heap} {A : Nat → Prop}
/-- a cell of the old way's start against the flat one -/
noncomputable def y7cb (k : Nat) : yH → zC → Bool
  | .inl ci, .inl (cj, fs) => Nat.beq ci cj && Nat.beq fs.length (yct.1 ci).length && (List.range fs.length).all (fun q => match fs[q]?, (yct.1 ci)[q]? with
    | some (.inl (.inl v)), some none => decide (y7S.1 k q = v.2)
    | some (.inr (some i)), some (some _) => Nat.beq i (y7pi (y7S.2 k q))
    | _, _ => false)
  | .inr y, .inr (.inl (kd, n, _)) => Nat.beq y.1 kd && Nat.beq y.2 n && Nat.ble y.1 1 && !(Nat.beq k 17 || Nat.beq k 38 || Nat.beq k 59 || Nat.beq k 80 || Nat.beq k 9 || Nat.beq k 11 || Nat.beq k 13 || Nat.beq k 15)
  | .inr y, .inr (.inr (kd, is)) => Nat.beq y.1 kd && Nat.beq y.2 is.length && !(Nat.ble y.1 1) && (List.range is.length).all (fun j => match is[j]? with
    | some i => Nat.beq i (y7pi (y7S.2 k j))
    | none => false)
  | _, _ => false
theorem y7_z {k : Nat} (h : (!(Nat.beq k 17 || Nat.beq k 38 || Nat.beq k 59 || Nat.beq k 80 || Nat.beq k 9 || Nat.beq k 11 || Nat.beq k 13 || Nat.beq k 15)) = true) (j : Nat) : y7S.1 k j = 0 := by
  unfold y7S
  dsimp only
  generalize Nat.beq k 17 = a at h ⊢
  generalize Nat.beq k 38 = b at h ⊢
  generalize Nat.beq k 59 = c at h ⊢
  generalize Nat.beq k 80 = d at h ⊢
  generalize Nat.beq k 9 = e at h ⊢
  generalize Nat.beq k 11 = e1 at h ⊢
  generalize Nat.beq k 13 = e2 at h ⊢
  generalize Nat.beq k 15 = e3 at h ⊢
  cases a <;> cases b <;> cases c <;> cases d <;> cases e <;> cases e1 <;> cases e2 <;> cases e3 <;> first | rfl | cases h
theorem yarr_c {cA : ClassId} {n : Nat} {f g : Nat → Value} (h : ∀ j, j < n → f j = g j) : arrV cA n f = arrV cA n g := by
  unfold arrV
  have e : (fun j : Fin n => f j.val) = (fun j : Fin n => g j.val) := funext fun j => h _ j.isLt
  rw [e]
theorem y7_c {k : Nat} {h : yH} {x : zC} (hc : y7cb k h x = true) (a : Nat) (j : Nat) (hv : va_at D vwCl (a, zce kA zz0 f (zp0 j) x) H) : va_at D vwCl (a, yce yct kA (fun i => f (y7pi i)) y7S k h) H := by
  cases h with
  | inl ci =>
    cases x with
    | inl o =>
      obtain ⟨cj, fs⟩ := o
      unfold y7cb at hc
      simp only [Bool.and_eq_true] at hc
      obtain ⟨⟨h1, h2⟩, h3⟩ := hc
      have h1 := Nat.eq_of_beq_eq_true h1
      have h2 := Nat.eq_of_beq_eq_true h2
      subst h1
      have e : fs.map (zcv zz0 f) = (yct.1 ci).mapIdx (fun q t => yfv (fun i => f (y7pi i)) y7S k q t) := by
        refine List.ext_getElem? (fun q => ?_)
        rw [List.getElem?_map, List.getElem?_mapIdx]
        by_cases hq : q < fs.length
        · have w := List.all_eq_true.mp h3 q (List.mem_range.mpr hq)
          rw [List.getElem?_eq_getElem hq, List.getElem?_eq_getElem (by omega : q < (yct.1 ci).length)] at w ⊢
          generalize fs[q] = u at w ⊢
          generalize (yct.1 ci)[q]'(by omega) = t at w ⊢
          cases u with
          | inl u =>
            cases u with
            | inl v =>
              cases t with
              | none =>
                have w := of_decide_eq_true w
                show some (Value.int (Int32.ofInt (0 + v.2))) = some (Value.int (Int32.ofInt (y7S.1 k q)))
                rw [w, Int.zero_add]
              | some t => cases w
            | inr v =>
              cases t with
              | none => cases w
              | some t => cases w
          | inr u =>
            cases u with
            | none =>
              cases t with
              | none => cases w
              | some t => cases w
            | some i =>
              cases t with
              | none => cases w
              | some t =>
                have w := Nat.eq_of_beq_eq_true w
                show some (Value.ref (f i)) = some (Value.ref (f (y7pi (y7S.2 k q))))
                rw [w]
        · rw [List.getElem?_eq_none (by omega), List.getElem?_eq_none (by omega)]
          rfl
      have hv : va_at D vwCl (a, .inr (ci, fs.map (zcv zz0 f))) H := hv
      rw [e] at hv
      exact hv
    | inr x =>
      cases x with
      | inl x => cases hc
      | inr x => cases hc
  | inr y =>
    cases x with
    | inl o => cases hc
    | inr x =>
      cases x with
      | inl o =>
        obtain ⟨kd, n, o⟩ := o
        unfold y7cb at hc
        simp only [Bool.and_eq_true] at hc
        obtain ⟨⟨⟨h1, h2⟩, h3⟩, h4⟩ := hc
        have h1 := Nat.eq_of_beq_eq_true h1
        have h2 := Nat.eq_of_beq_eq_true h2
        have z := y7_z h4
        subst h1
        subst h2
        have hv : va_at D vwCl (a, .inl (kA y.1, y.2, .inl (fun _ => Int32.ofInt 0))) H := hv
        unfold yce
        dsimp only
        rw [h3, cond_true]
        have e : (fun q => Int32.ofInt (y7S.1 k q)) = (fun _ => Int32.ofInt 0) := funext fun q => by rw [z q]
        rw [e]
        exact hv
      | inr o =>
        obtain ⟨kd, is⟩ := o
        unfold y7cb at hc
        simp only [Bool.and_eq_true] at hc
        obtain ⟨⟨⟨h1, h2⟩, h3⟩, h4⟩ := hc
        have h1 := Nat.eq_of_beq_eq_true h1
        have h2 := Nat.eq_of_beq_eq_true h2
        subst h1
        have h3 : Nat.ble y.1 1 = false := by
          cases e : Nat.ble y.1 1 with
          | false => rfl
          | true => rw [e] at h3; cases h3
        unfold yce
        dsimp only
        rw [h3, cond_false, h2]
        have hv : H[a]? = some (arrV (kA y.1) is.length (fun j => va_rf ((is[j]?).map f))) := hv
        show H[a]? = some (arrV (kA y.1) is.length (fun j => va_rf (some (f (y7pi (y7S.2 k j))))))
        rw [hv]
        refine congrArg some (yarr_c (fun j hj => ?_))
        have w := List.all_eq_true.mp h4 j (List.mem_range.mpr hj)
        rw [List.getElem?_eq_getElem hj] at w ⊢
        have w := Nat.eq_of_beq_eq_true w
        show va_rf (some (f is[j])) = _
        rw [w]
noncomputable def y7ca : Bool := (List.range 101).all (fun k => match ysh7[k]?, wI_X7[y7pi k]? with
  | some h, some (j, x) => Nat.beq j (y7pi k) && y7cb k h x
  | _, _ => false)
set_option maxRecDepth 100000 in
theorem y7ca_ok : y7ca = true := by decide +kernel
theorem y7_P (h : va_P D vwCl (zws kA zz0 f zp0 wI_X7) H) : va_P D vwCl (yws yct kA (fun i => f (y7pi i)) ysh7 y7S) H := fun k q hk => by
  have hl : k < 101 := by
    have a := (List.getElem?_eq_some_iff.mp hk).1
    have b : (yws yct kA (fun i => f (y7pi i)) ysh7 y7S).length = 101 := by
      unfold yws
      rw [List.length_mapIdx]; rfl
    omega
  have w := List.all_eq_true.mp y7ca_ok k (List.mem_range.mpr hl)
  cases e1 : ysh7[k]? with
  | none => rw [e1] at w; cases w
  | some t =>
    cases e2 : wI_X7[y7pi k]? with
    | none => rw [e1, e2] at w; cases w
    | some jx =>
      obtain ⟨j, x⟩ := jx
      rw [e1, e2] at w
      have w := Bool.and_eq_true_iff.mp w
      have w1 := Nat.eq_of_beq_eq_true w.1
      subst w1
      rw [yws_get e1] at hk
      have hk := Option.some.inj hk
      rw [← hk]
      exact y7_c w.2 _ _ (h _ _ (zws_get kA zz0 f zp0 e2))
theorem y7_w : ∀ k : Fin 101, (wI_X7[k.val]?).map Prod.fst = some k.val := by decide +kernel
theorem y7_l : ∀ k : Fin 101, y7pi k.val < 101 := by decide +kernel
noncomputable def y7q : List Nat := [0, 17, 18, 19, 20, 21, 22, 23, 24, 25, 26, 27, 28, 29, 30, 31, 32, 33, 34, 35, 36, 37, 38, 39, 40, 41, 42, 43, 44, 45, 46, 47, 48, 49, 50, 51, 52, 53, 54, 55, 56, 57, 58, 1, 2, 3, 4, 5, 6, 7, 8, 59, 60, 61, 62, 63, 64, 65, 66, 67, 68, 69, 70, 71, 72, 73, 74, 75, 76, 77, 78, 79, 80, 81, 82, 83, 84, 85, 86, 87, 88, 89, 90, 91, 92, 93, 94, 95, 96, 97, 98, 99, 100, 9, 10, 11, 12, 13, 14, 15, 16]
theorem y7_jq : ∀ i : Fin 101, y7q.getD (y7pi i.val) 0 = i.val := by decide +kernel
theorem y7_j (i j : Fin 101) (h : y7pi i.val = y7pi j.val) : i = j := by
  have a := y7_jq i
  have b := y7_jq j
  rw [h] at a
  exact Fin.ext (a.symm.trans b)
theorem y7_ad {k : Nat} (hk : k < 101) : ∃ e, (zws kA zz0 f zp0 wI_X7)[y7pi k]? = some (f (y7pi k), e) := by
  have q := y7_w ⟨y7pi k, y7_l ⟨k, hk⟩⟩
  dsimp only at q
  cases e : wI_X7[y7pi k]? with
  | none => rw [e] at q; cases q
  | some x =>
    rw [e] at q
    have q : x.1 = y7pi k := Option.some.inj q
    have w := zws_get kA zz0 f zp0 (w := wI_X7) (q := y7pi k) (i := x.1) (x := x.2) e
    rw [q] at w
    exact ⟨_, w⟩
theorem y7_D (h : va_D A (zws kA zz0 f zp0 wI_X7)) : va_D A (yws yct kA (fun i => f (y7pi i)) ysh7 y7S) := by
  have hl : ∀ {k : Nat} {q : Nat × va_E}, (yws yct kA (fun i => f (y7pi i)) ysh7 y7S)[k]? = some q → k < 101 ∧ q.1 = f (y7pi k) := fun {k q} hk => by
    have a := (List.getElem?_eq_some_iff.mp hk).1
    have b : (yws yct kA (fun i => f (y7pi i)) ysh7 y7S).length = ysh7.length := by
      unfold yws
      rw [List.length_mapIdx]
    have c : k < ysh7.length := by omega
    have d := yws_get (ct := yct) (kA := kA) (ad := fun i => f (y7pi i)) (σ := y7S) (List.getElem?_eq_getElem c)
    rw [d] at hk
    have hk := Option.some.inj hk
    exact ⟨c, by rw [← hk]⟩
  refine ⟨fun i j p q hi hj e => ?_, fun k q hk => ?_⟩
  · obtain ⟨i1, i2⟩ := hl hi
    obtain ⟨j1, j2⟩ := hl hj
    obtain ⟨x, hx⟩ := y7_ad (kA := kA) (f := f) i1
    obtain ⟨y, hy⟩ := y7_ad (kA := kA) (f := f) j1
    have w := h.1 _ _ _ _ hx hy (by rw [← i2, ← j2]; exact e)
    have z := y7_j ⟨i, i1⟩ ⟨j, j1⟩ w
    exact congrArg Fin.val z
  · obtain ⟨i1, i2⟩ := hl hk
    obtain ⟨x, hx⟩ := y7_ad (kA := kA) (f := f) i1
    rw [i2]
    exact h.2 _ _ hx
end Y7C
end
section
/-- all numbers 0 -/
noncomputable def zok0 (w : zW) : Bool := w.all (fun x => match x.2 with
  | .inr (.inl (_, _, gs, mm)) => gs.all (fun g => match g.2 with
    | .inl i => zle i.1 0 && zle 0 i.2
    | .inr v => decide (v.2 = 0)) && mm.isEmpty
  | _ => true)
theorem zok0_g : ∀ (gs : List zG) (o : Nat), gs.all (fun g => match g.2 with
    | .inl i => zle i.1 0 && zle 0 i.2
    | .inr v => decide (v.2 = 0)) = true → zokG zz0 (fun _ => 0) o gs
  | [], _, _ => trivial
  | g :: gs, o, h => by
    simp only [List.all_cons, Bool.and_eq_true] at h
    refine ⟨fun j _ _ => ?_, zok0_g gs _ h.2⟩
    have h1 := h.1
    obtain ⟨n, i | v⟩ := g
    · simp only [Bool.and_eq_true] at h1
      exact ⟨zle_ok h1.1, zle_ok h1.2⟩
    · have : v.2 = 0 := of_decide_eq_true h1
      show (0 : Int) = zev zz0 v
      unfold zev
      rw [this]
      rfl
theorem zok0_w {w : zW} (h : zok0 w = true) : zokW zz0 zp0 w := by
  intro x hx
  have q := List.all_eq_true.mp h x hx
  obtain ⟨i, c⟩ := x
  rcases c with c | (c | c)
  · trivial
  · obtain ⟨a, b, gs, mm⟩ := c
    simp only [Bool.and_eq_true] at q
    have e : mm = [] := List.isEmpty_iff.mp q.2
    subst e
    exact ⟨zok0_g gs 0 q.1, fun x hx => by cases hx⟩
  · trivial
noncomputable def zw8 : zW := [(0, .inl (8, [zr 1, zr 2, zr 3, zi 0 0, zi 0 0, zi 0 0, zr 4, zr 5, zi 0 0, zi 0 0, zi 0 0, zi 0 0, zr 6, zr 7, zi 0 0, zi 0 0, zr 8, zi 0 0, zi 0 0, zi 0 0, zi 0 0, zi 0 0, zi 0 0, zi 0 0, zr 9, zi 0 0, zi 0 0, zr 10, zr 11, zr 12, zr 13, zr 14, zi 0 0])),
  (1, .inr (.inl (0, 393, [(393, .inl ((-2147483648), 2147483647))], []))),
  (2, .inr (.inl (0, 131, [(131, .inl ((-2147483648), 2147483647))], []))),
  (3, .inr (.inl (1, 2, [(2, .inl ((-2147483648), 2147483647))], []))),
  (4, .inr (.inl (0, 5, [(5, .inl ((-2147483648), 2147483647))], []))),
  (5, .inr (.inl (0, 131, [(131, .inl ((-2147483648), 2147483647))], []))),
  (6, .inr (.inl (0, 5, [(5, .inl ((-2147483648), 2147483647))], []))),
  (7, .inr (.inl (0, 3, [(3, .inl ((-2147483648), 2147483647))], []))),
  (8, .inr (.inl (0, 160, [(160, .inl ((-2147483648), 2147483647))], []))),
  (9, .inr (.inl (0, 40, [(40, .inl ((-2147483648), 2147483647))], []))),
  (10, .inr (.inl (0, 700, [(700, .inl ((-2147483648), 2147483647))], []))),
  (11, .inr (.inl (0, 11216, [(11216, .inl ((-2147483648), 2147483647))], []))),
  (12, .inr (.inl (0, 4, [(4, .inl ((-2147483648), 2147483647))], []))),
  (13, .inr (.inl (0, 4, [(4, .inl ((-2147483648), 2147483647))], []))),
  (14, .inr (.inl (0, 160, [(160, .inl ((-2147483648), 2147483647))], [])))]
/-- the reference's start -/
def y8T (τ : yS) : Prop := τ.1 0 17 = 0 ∧ τ.1 0 22 = 0 ∧ τ.1 0 3 = 3 ∧ τ.1 0 4 = 0 ∧ τ.1 0 5 = 0 ∧ (∀ j : Nat, j < 131 → τ.1 1 j = 0) ∧ τ.1 3 0 = 0 ∧ τ.1 3 1 = 0 ∧ ∀ k : Nat, k < 4 → τ.1 12 k = -4
theorem zok0_8 : zok0 zw8 = true := by decide +kernel
/-- worlds with the same addresses are apart alike -/
theorem yva_D {A : Nat → Prop} {u v : va_W} (e : u.map Prod.fst = v.map Prod.fst) (h : va_D A u) : va_D A v := by
  have key : ∀ (i : Nat) (q : Nat × va_E), v[i]? = some q → ∃ q' : Nat × va_E, u[i]? = some q' ∧ q'.1 = q.1 := fun i q hq => by
    have a : (v.map Prod.fst)[i]? = some q.1 := by rw [List.getElem?_map, hq]; rfl
    rw [← e, List.getElem?_map] at a
    cases w : u[i]? with
    | none => rw [w] at a; cases a
    | some q' =>
      rw [w] at a
      exact ⟨q', rfl, Option.some.inj a⟩
  refine ⟨fun i j p q hi hj he => ?_, fun k q hk => ?_⟩
  · obtain ⟨p', p1, p2⟩ := key i p hi
    obtain ⟨q', q1, q2⟩ := key j q hj
    exact h.1 i j p' q' p1 q1 (by rw [p2, q2]; exact he)
  · obtain ⟨q', q1, q2⟩ := key k q hk
    rw [← q2]
    exact h.2 k q' q1
/-- a cell of the reference's start -/
noncomputable def y8cb (k : Nat) : yH → zC → Bool
  | .inl ci, .inl (cj, fs) => Nat.beq k 0 && Nat.beq ci cj && Nat.beq fs.length (yct.1 ci).length && (List.range fs.length).all (fun q => match fs[q]?, (yct.1 ci)[q]? with
    | some (.inl (.inl v)), some none => decide (v.2 = 0)
    | some (.inr (some i)), some (some _) => Nat.beq i (yrf ysh8 [] k q)
    | _, _ => false)
  | .inr y, .inr (.inl (kd, n, _)) => !(Nat.beq k 0) && Nat.beq y.1 kd && Nat.beq y.2 n && Nat.ble y.1 1
  | _, _ => false
section Y8C
variable {D : va_G} {kA : Nat → ClassId} {f : Nat → Nat} {H : Heap} {A : Nat → Prop} {ph : Nat → Nat → Int}
theorem y8_c {k : Nat} {h : yH} {x : zC} (hc : y8cb k h x = true) (a : Nat) (hv : va_at D vwCl (a, zce kA zz0 f (ph k) x) H) : va_at D vwCl (a, yce yct kA f (y8S ph) k h) H := by
  cases h with
  | inl ci =>
    cases x with
    | inl o =>
      obtain ⟨cj, fs⟩ := o
      unfold y8cb at hc
      simp only [Bool.and_eq_true] at hc
      obtain ⟨⟨⟨h0, h1⟩, h2⟩, h3⟩ := hc
      have h1 := Nat.eq_of_beq_eq_true h1
      have h2 := Nat.eq_of_beq_eq_true h2
      subst h1
      have e : fs.map (zcv zz0 f) = (yct.1 ci).mapIdx (fun q t => yfv f (y8S ph) k q t) := by
        refine List.ext_getElem? (fun q => ?_)
        rw [List.getElem?_map, List.getElem?_mapIdx]
        by_cases hq : q < fs.length
        · have w := List.all_eq_true.mp h3 q (List.mem_range.mpr hq)
          rw [List.getElem?_eq_getElem hq, List.getElem?_eq_getElem (by omega : q < (yct.1 ci).length)] at w ⊢
          generalize fs[q] = u at w ⊢
          generalize (yct.1 ci)[q]'(by omega) = t at w ⊢
          cases u with
          | inl u =>
            cases u with
            | inl v =>
              cases t with
              | none =>
                have w := of_decide_eq_true w
                show some (Value.int (Int32.ofInt (0 + v.2))) = some (Value.int (Int32.ofInt (bif Nat.beq k 0 then 0 else ph k q)))
                rw [w, h0]
                rfl
              | some t => cases w
            | inr v =>
              cases t with
              | none => cases w
              | some t => cases w
          | inr u =>
            cases u with
            | none =>
              cases t with
              | none => cases w
              | some t => cases w
            | some i =>
              cases t with
              | none => cases w
              | some t =>
                have w := Nat.eq_of_beq_eq_true w
                show some (Value.ref (f i)) = some (Value.ref (f (yrf ysh8 [] k q)))
                rw [w]
        · rw [List.getElem?_eq_none (by omega), List.getElem?_eq_none (by omega)]
          rfl
      have hv : va_at D vwCl (a, .inr (ci, fs.map (zcv zz0 f))) H := hv
      rw [e] at hv
      exact hv
    | inr x =>
      cases x with
      | inl x => cases hc
      | inr x => cases hc
  | inr y =>
    cases x with
    | inl o => cases hc
    | inr x =>
      cases x with
      | inl o =>
        obtain ⟨kd, n, o⟩ := o
        unfold y8cb at hc
        simp only [Bool.and_eq_true] at hc
        obtain ⟨⟨⟨h0, h1⟩, h2⟩, h3⟩ := hc
        have h1 := Nat.eq_of_beq_eq_true h1
        have h2 := Nat.eq_of_beq_eq_true h2
        have h0 : Nat.beq k 0 = false := by
          cases e : Nat.beq k 0 with
          | false => rfl
          | true => rw [e] at h0; cases h0
        subst h1
        subst h2
        have hv : va_at D vwCl (a, .inl (kA y.1, y.2, .inl (fun j => Int32.ofInt (ph k j)))) H := hv
        unfold yce
        dsimp only
        rw [h3, cond_true]
        have e : (fun q => Int32.ofInt ((y8S ph).1 k q)) = (fun q => Int32.ofInt (ph k q)) := funext fun q => by
          show Int32.ofInt (bif Nat.beq k 0 then 0 else ph k q) = _
          rw [h0]
          rfl
        rw [e]
        exact hv
      | inr o => cases hc
noncomputable def y8ca : Bool := (List.range 15).all (fun k => match ysh8[k]?, zw8[k]? with
  | some h, some (j, x) => Nat.beq j k && y8cb k h x
  | _, _ => false)
set_option maxRecDepth 100000 in
theorem y8ca_ok : y8ca = true := by decide +kernel
theorem y8_P (h : va_P D vwCl (zws kA zz0 f ph zw8) H) : va_P D vwCl (yws yct kA f ysh8 (y8S ph)) H := fun k q hk => by
  have hl : k < 15 := by
    have a := (List.getElem?_eq_some_iff.mp hk).1
    have b : (yws yct kA f ysh8 (y8S ph)).length = 15 := by
      unfold yws
      rw [List.length_mapIdx]; rfl
    omega
  have w := List.all_eq_true.mp y8ca_ok k (List.mem_range.mpr hl)
  cases e1 : ysh8[k]? with
  | none => rw [e1] at w; cases w
  | some t =>
    cases e2 : zw8[k]? with
    | none => rw [e1, e2] at w; cases w
    | some jx =>
      obtain ⟨j, x⟩ := jx
      rw [e1, e2] at w
      have w := Bool.and_eq_true_iff.mp w
      have w1 := Nat.eq_of_beq_eq_true w.1
      subst w1
      rw [yws_get e1] at hk
      have hk := Option.some.inj hk
      rw [← hk]
      exact y8_c w.2 _ (h _ _ (zws_get kA zz0 f ph e2))
theorem y8_D (h : va_D A (zws kA zz0 f ph zw8)) : va_D A (yws yct kA f ysh8 (y8S ph)) := by
  refine yva_D ?_ h
  rw [show (zws kA zz0 f ph zw8).map Prod.fst = zw8.map (fun x => f x.1) by unfold zws; rw [List.map_map]; rfl, show (yws yct kA f ysh8 (y8S ph)).map Prod.fst = ysh8.mapIdx (fun i _ => f i) from List.ext_getElem? (fun i => by unfold yws; rw [List.getElem?_map, List.getElem?_mapIdx, List.getElem?_mapIdx]; cases ysh8[i]? <;> rfl)]
  rfl
end Y8C
end
