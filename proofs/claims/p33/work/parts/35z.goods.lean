/-- words of one list among another's, by pieces -/
theorem ygc {big : List Cond} {C : List (List Cond)} (hC : big = C.flatten) (ws : List Cond) (ps : List Nat) (hp : ws.map some = ps.map (fun p => (C.getD (Nat.div p 256) [])[Nat.mod p 256]?)) (h : ws.all goodWord = true) : GoodIn big ws := by
  intro w hw
  have h1 := List.all_eq_true.mp h w hw
  have h2 : some w ∈ ws.map some := List.mem_map.mpr ⟨w, hw, rfl⟩
  rw [hp] at h2
  obtain ⟨p, -, hq⟩ := List.mem_map.mp h2
  have hm : w ∈ C.getD (Nat.div p 256) [] := List.mem_of_getElem? hq
  refine ⟨?_, good_of_word h1⟩
  rw [hC]
  cases e : C[Nat.div p 256]? with
  | none =>
    rw [List.getD_eq_getElem?_getD, e] at hm
    exact absurd hm List.not_mem_nil
  | some c =>
    rw [List.getD_eq_getElem?_getD, e] at hm
    exact List.mem_flatten.mpr ⟨c, List.mem_of_getElem? e, hm⟩
set_option maxRecDepth 100000 in
theorem yg_wsX7_numbersOf : wsX7_numbersOf.all goodWord = true := by decide +kernel
noncomputable def yC_wsX0_fewestVows : List (List Cond) := [[.code yX0_fewestVows cX0_fewestVows 4 (some .int)], wsX0_fewestVows_r1, wsX0_fewestVows_r2, wsX0_fewestVows_r3, wsX00, wsX40, wsX60]
set_option maxRecDepth 100000 in
theorem yCe_wsX0_fewestVows : wsX0_fewestVows = yC_wsX0_fewestVows.flatten := rfl
set_option maxRecDepth 100000 in
theorem ggX0_fewestVows_X7_numbersOf : GoodIn wsX0_fewestVows wsX7_numbersOf := ygc yCe_wsX0_fewestVows _ [265] rfl yg_wsX7_numbersOf
set_option maxRecDepth 100000 in
theorem gX0_fewestVows_X7_numbersOf_n25 : GoodIn wsX0_fewestVows (wsX7_numbersOf) := ggX0_fewestVows_X7_numbersOf
set_option maxRecDepth 100000 in
theorem yg_wsX0_wantsBrought : wsX0_wantsBrought.all goodWord = true := by decide +kernel
set_option maxRecDepth 100000 in
theorem ggX0_fewestVows_X0_wantsBrought : GoodIn wsX0_fewestVows wsX0_wantsBrought := ygc yCe_wsX0_fewestVows _ [269, 270, 271, 272, 273, 274, 275, 276, 277, 278, 279, 512, 513, 514, 515, 516, 517, 518, 519, 520, 521, 522, 523, 524, 525, 526, 527, 528, 529, 530, 264, 531, 532, 533, 1280, 1281, 1282, 1283, 1284, 1285, 1286, 1287, 1288, 1289, 1290, 1291, 1292, 1293, 1294, 1295, 1296, 1297, 1536, 1537, 1538] rfl yg_wsX0_wantsBrought
set_option maxRecDepth 100000 in
theorem gX0_fewestVows_X0_wantsBrought : GoodIn wsX0_fewestVows (va_wsS RX0 29 yX0_wantsBrought wsX0_wantsBrought) := goodIn_app (ygc yCe_wsX0_fewestVows _ [266, 267, 268] rfl rfl) ggX0_fewestVows_X0_wantsBrought
set_option maxRecDepth 100000 in
theorem yg_wsX0_allWants : wsX0_allWants.all goodWord = true := by decide +kernel
set_option maxRecDepth 100000 in
theorem ggX0_fewestVows_X0_allWants : GoodIn wsX0_fewestVows wsX0_allWants := ygc yCe_wsX0_fewestVows _ [768, 271, 272, 1280, 1281, 1282, 1283, 1284, 1285, 1286, 1287, 1288, 1289, 1290, 1291, 1292, 1293, 1294, 1295, 1296, 1297, 1536, 1537, 1538] rfl yg_wsX0_allWants
set_option maxRecDepth 100000 in
theorem gX0_fewestVows_X0_allWants : GoodIn wsX0_fewestVows (va_wsS RX0 39 yX0_allWants wsX0_allWants) := goodIn_app (ygc yCe_wsX0_fewestVows _ [534, 535, 268] rfl rfl) ggX0_fewestVows_X0_allWants
noncomputable def yC_wsX0_vowOfFirstSet : List (List Cond) := [[.code yX0_vowOfFirstSet cX0_vowOfFirstSet 7 (some .int)], wsX0_vowOfFirstSet_r1, wsX0_vowOfFirstSet_r2, wsX40, wsX00, wsX60]
set_option maxRecDepth 100000 in
theorem yCe_wsX0_vowOfFirstSet : wsX0_vowOfFirstSet = yC_wsX0_vowOfFirstSet.flatten := rfl
set_option maxRecDepth 100000 in
theorem ggX0_vowOfFirstSet_X0_allWants : GoodIn wsX0_vowOfFirstSet wsX0_allWants := ygc yCe_wsX0_vowOfFirstSet _ [261, 262, 263, 768, 769, 770, 771, 772, 773, 774, 775, 776, 777, 778, 779, 780, 781, 782, 783, 784, 785, 1280, 1281, 1282] rfl yg_wsX0_allWants
set_option maxRecDepth 100000 in
theorem gX0_vowOfFirstSet_X0_allWants : GoodIn wsX0_vowOfFirstSet (va_wsS RX0 39 yX0_allWants wsX0_allWants) := goodIn_app (ygc yCe_wsX0_vowOfFirstSet _ [258, 259, 260] rfl rfl) ggX0_vowOfFirstSet_X0_allWants
set_option maxRecDepth 100000 in
theorem ggX0_vowOfFirstSet_X7_numbersOf : GoodIn wsX0_vowOfFirstSet wsX7_numbersOf := ygc yCe_wsX0_vowOfFirstSet _ [266] rfl yg_wsX7_numbersOf
set_option maxRecDepth 100000 in
theorem gX0_vowOfFirstSet_X7_numbersOf_n25 : GoodIn wsX0_vowOfFirstSet (wsX7_numbersOf) := ggX0_vowOfFirstSet_X7_numbersOf
set_option maxRecDepth 100000 in
theorem ggX0_vowOfFirstSet_X0_wantsBrought : GoodIn wsX0_vowOfFirstSet wsX0_wantsBrought := ygc yCe_wsX0_vowOfFirstSet _ [269, 270, 262, 263, 271, 272, 273, 274, 275, 276, 277, 278, 279, 512, 513, 514, 515, 516, 517, 518, 519, 520, 521, 522, 523, 524, 525, 526, 527, 528, 265, 529, 530, 531, 768, 769, 770, 771, 772, 773, 774, 775, 776, 777, 778, 779, 780, 781, 782, 783, 784, 785, 1280, 1281, 1282] rfl yg_wsX0_wantsBrought
set_option maxRecDepth 100000 in
theorem gX0_vowOfFirstSet_X0_wantsBrought : GoodIn wsX0_vowOfFirstSet (va_wsS RX0 29 yX0_wantsBrought wsX0_wantsBrought) := goodIn_app (ygc yCe_wsX0_vowOfFirstSet _ [267, 268, 260] rfl rfl) ggX0_vowOfFirstSet_X0_wantsBrought
set_option maxRecDepth 100000 in
theorem yg_wsX4_broughtBy : wsX4_broughtBy.all goodWord = true := by decide +kernel
noncomputable def yC_wsX0_wantsBrought : List (List Cond) := [[.code yX0_wantsBrought cX0_wantsBrought 6 (some .int)], wsX0_wantsBrought_r1, wsX0_wantsBrought_r2, wsX40, wsX60]
set_option maxRecDepth 100000 in
theorem yCe_wsX0_wantsBrought : wsX0_wantsBrought = yC_wsX0_wantsBrought.flatten := rfl
set_option maxRecDepth 100000 in
theorem ggX0_wantsBrought_X4_broughtBy : GoodIn wsX0_wantsBrought wsX4_broughtBy := ygc yCe_wsX0_wantsBrought _ [265, 266, 267, 268, 269, 270, 271, 264, 272, 273, 274, 275, 276, 277, 278, 279, 512, 513, 514, 515, 516, 517, 518, 519, 520, 768, 769, 770, 771, 772, 773, 774, 775, 776, 777, 778, 779, 780, 781, 782, 783, 784, 785] rfl yg_wsX4_broughtBy
set_option maxRecDepth 100000 in
theorem gX0_wantsBrought_X4_broughtBy : GoodIn wsX0_wantsBrought (wsV RX0 55 RX4 yX4_broughtBy wsX4_broughtBy) := goodIn_app (ygc yCe_wsX0_wantsBrought _ [261, 262, 263, 264] rfl rfl) ggX0_wantsBrought_X4_broughtBy
set_option maxRecDepth 100000 in
theorem yg_wsX7_bit : wsX7_bit.all goodWord = true := by decide +kernel
set_option maxRecDepth 100000 in
theorem ggX0_wantsBrought_X7_bit : GoodIn wsX0_wantsBrought wsX7_bit := ygc yCe_wsX0_wantsBrought _ [518] rfl yg_wsX7_bit
set_option maxRecDepth 100000 in
theorem gX0_wantsBrought_X7_bit_n64 : GoodIn wsX0_wantsBrought (wsX7_bit) := ggX0_wantsBrought_X7_bit
set_option maxRecDepth 100000 in
theorem yg_wsX7_withBit : wsX7_withBit.all goodWord = true := by decide +kernel
set_option maxRecDepth 100000 in
theorem ggX0_wantsBrought_X7_withBit : GoodIn wsX0_wantsBrought wsX7_withBit := ygc yCe_wsX0_wantsBrought _ [520] rfl yg_wsX7_withBit
set_option maxRecDepth 100000 in
theorem gX0_wantsBrought_X7_withBit_n67 : GoodIn wsX0_wantsBrought (wsX7_withBit) := ggX0_wantsBrought_X7_withBit
set_option maxRecDepth 100000 in
theorem yg_wsX3_init : wsX3_init.all goodWord = true := by decide +kernel
set_option maxRecDepth 100000 in
theorem ggX1_init_X3_init : GoodIn wsX1_init wsX3_init := goodIn_r _ [9, 10, 2, 3, 11, 12, 13, 14] rfl yg_wsX3_init
set_option maxRecDepth 100000 in
theorem gX1_init_X3_init_n11 : GoodIn wsX1_init (wsX3_init) := ggX1_init_X3_init
set_option maxRecDepth 100000 in
theorem yg_wsX4_makeNew : wsX4_makeNew.all goodWord = true := by decide +kernel
noncomputable def yC_wsX1_readInto : List (List Cond) := [[.code yX1_readInto cX1_readInto 3 none], wsX1_readInto_r1, wsX1_readInto_r2, wsX1_readInto_r3, wsX1_readInto_r4, wsX1_readInto_r5, wsX1_readInto_r6, wsX1_readInto_r7, wsX1_readInto_r8, wsX1_readInto_r9, wsX1_readInto_r10, wsX10, wsX40, wsX30, wsX50, wsX60]
set_option maxRecDepth 100000 in
theorem yCe_wsX1_readInto : wsX1_readInto = yC_wsX1_readInto.flatten := rfl
set_option maxRecDepth 100000 in
theorem ggX1_readInto_X4_makeNew : GoodIn wsX1_readInto wsX4_makeNew := ygc yCe_wsX1_readInto _ [275, 276, 277, 278, 279, 512, 513, 514, 515, 516, 517, 518, 519, 520, 521, 522, 523, 524, 525, 274, 526, 527, 528, 529, 3072, 3073, 3074, 3075, 3076, 3077, 3078, 3079, 3080, 3081, 3082, 3083, 3084, 3085, 3086, 3087, 3088, 3089, 3584, 3585, 3586, 3587, 3588, 3840, 3841, 3842] rfl yg_wsX4_makeNew
set_option maxRecDepth 100000 in
theorem gX1_readInto_X4_makeNew : GoodIn wsX1_readInto (wsV RX1 18 RX4 yX4_makeNew wsX4_makeNew) := goodIn_app (ygc yCe_wsX1_readInto _ [271, 272, 273, 274] rfl rfl) ggX1_readInto_X4_makeNew
set_option maxRecDepth 100000 in
theorem yg_wsX1_readToken : wsX1_readToken.all goodWord = true := by decide +kernel
set_option maxRecDepth 100000 in
theorem ggX1_readInto_X1_readToken : GoodIn wsX1_readInto wsX1_readToken := ygc yCe_wsX1_readInto _ [534, 257, 256, 269, 270, 535, 768, 266, 769, 770, 533, 771, 772, 773, 774, 775, 258, 2816, 2817, 2818, 2819, 2820, 2821, 2822, 2823, 2824, 2825, 2826, 2827, 2828, 3328, 3329] rfl yg_wsX1_readToken
set_option maxRecDepth 100000 in
theorem gX1_readInto_X1_readToken : GoodIn wsX1_readInto (wsV RX1 55 RX1 yX1_readToken wsX1_readToken) := goodIn_app (ygc yCe_wsX1_readInto _ [530, 531, 532, 533] rfl rfl) ggX1_readInto_X1_readToken
set_option maxRecDepth 100000 in
theorem yg_wsX1_readLine : wsX1_readLine.all goodWord = true := by decide +kernel
set_option maxRecDepth 100000 in
theorem ggX1_readInto_X1_readLine : GoodIn wsX1_readInto wsX1_readLine := ygc yCe_wsX1_readInto _ [779, 768, 780, 781, 782, 533, 783, 266, 256, 269, 535, 784, 785, 786, 787, 788, 789, 790, 791, 1024, 1025, 1026, 1027, 1028, 1029, 1030, 1031, 1032, 1033, 1034, 1035, 1036, 1037, 1038, 1039, 1040, 1041, 1042, 1043, 1044, 1045, 1046, 1047, 1280, 1281, 1282, 1283, 1284, 1285, 1286, 1287, 1288, 1289, 1290, 1291, 1292, 1293, 1294, 1295, 1296, 1297, 1298, 1299, 1300, 260, 267, 1301, 772, 773, 774, 775, 257, 258, 1302, 1303, 1536, 1537, 530, 531, 532, 534, 270, 769, 770, 771, 1538, 1539, 1540, 1541, 1542, 1543, 1544, 1545, 1546, 1547, 1548, 268, 1549, 1550, 1551, 274, 1552, 278, 1553, 1554, 1555, 1556, 1557, 261, 1558, 1559, 1792, 1793, 1794, 1795, 264, 1796, 1797, 1798, 1799, 1800, 1801, 1802, 1803, 1804, 1805, 1806, 1807, 1808, 1809, 1810, 1811, 265, 1812, 1813, 1814, 1815, 262, 2048, 2049, 2050, 2051, 2052, 263, 2053, 2054, 2055, 2056, 2057, 2058, 2059, 2060, 2061, 524, 525, 526, 527, 528, 529, 2062, 2063, 2064, 2065, 2066, 2067, 2068, 2069, 2070, 2071, 2304, 2305, 2306, 2307, 2308, 2309, 2310, 2311, 2312, 2313, 2314, 2315, 2316, 2317, 2318, 2319, 2320, 2321, 2322, 2323, 2324, 2325, 2326, 2816, 2817, 2818, 2819, 2820, 2821, 2822, 2823, 2824, 2825, 2826, 2827, 2828, 3328, 3329, 3072, 3073, 3074, 3075, 3076, 3077, 3078, 3079, 3080, 3081, 3082, 3083, 3084, 3085, 3086, 3087, 3088, 3089, 3584, 3585, 3586, 3587, 3588, 3840, 3841, 3842] rfl yg_wsX1_readLine
set_option maxRecDepth 100000 in
theorem gX1_readInto_X1_readLine : GoodIn wsX1_readInto (wsV RX1 61 RX1 yX1_readLine wsX1_readLine) := goodIn_app (ygc yCe_wsX1_readInto _ [776, 777, 778, 533] rfl rfl) ggX1_readInto_X1_readLine
set_option maxRecDepth 100000 in
theorem yg_wsX1_needStroke : wsX1_needStroke.all goodWord = true := by decide +kernel
set_option maxRecDepth 100000 in
theorem ggX1_readInto_X1_needStroke : GoodIn wsX1_readInto wsX1_needStroke := ygc yCe_wsX1_readInto _ [2562, 266, 768, 772, 773, 774, 533, 775, 257, 258, 2816, 2817, 2818, 2819, 2820, 2821, 2822, 2823, 2824, 2825, 2826, 2827, 2828] rfl yg_wsX1_needStroke
set_option maxRecDepth 100000 in
theorem gX1_readInto_X1_needStroke : GoodIn wsX1_readInto (wsV RX1 65 RX1 yX1_needStroke wsX1_needStroke) := goodIn_app (ygc yCe_wsX1_readInto _ [2327, 2560, 2561, 533] rfl rfl) ggX1_readInto_X1_needStroke
set_option maxRecDepth 100000 in
theorem yg_wsX1_complain : wsX1_complain.all goodWord = true := by decide +kernel
set_option maxRecDepth 100000 in
theorem ggX1_readInto_X1_complain : GoodIn wsX1_readInto wsX1_complain := ygc yCe_wsX1_readInto _ [775, 257, 258, 2816, 2817, 2818, 2819, 2820, 2821, 2822, 2823, 2824, 2825, 2826, 2827, 2828] rfl yg_wsX1_complain
set_option maxRecDepth 100000 in
theorem gX1_readInto_X1_complain : GoodIn wsX1_readInto (wsV RX1 77 RX1 yX1_complain wsX1_complain) := goodIn_app (ygc yCe_wsX1_readInto _ [772, 773, 774, 533] rfl rfl) ggX1_readInto_X1_complain
set_option maxRecDepth 100000 in
theorem yg_wsX1_isName : wsX1_isName.all goodWord = true := by decide +kernel
noncomputable def yC_wsX1_readLine : List (List Cond) := [[.code yX1_readLine cX1_readLine 2 none], wsX1_readLine_r1, wsX1_readLine_r2, wsX1_readLine_r3, wsX1_readLine_r4, wsX1_readLine_r5, wsX1_readLine_r6, wsX1_readLine_r7, wsX1_readLine_r8, wsX10, wsX30, wsX40, wsX50, wsX60]
set_option maxRecDepth 100000 in
theorem yCe_wsX1_readLine : wsX1_readLine = yC_wsX1_readLine.flatten := rfl
set_option maxRecDepth 100000 in
theorem ggX1_readLine_X1_isName : GoodIn wsX1_readLine wsX1_isName := ygc yCe_wsX1_readLine _ [261, 262, 263, 256, 264, 265, 266, 267, 268, 269, 270, 271, 272, 273, 274, 275, 276, 277, 278, 279, 512, 513, 514, 515, 516, 517, 518, 519, 520, 521, 522, 523, 524, 525, 526, 527, 528, 529, 530, 531, 532, 533, 534, 535, 768, 769, 770, 771, 772, 773, 774, 775, 776, 777, 778, 2304, 2305, 2306, 2307, 2308, 2309, 2310, 2311, 2312, 2313, 2314, 2315, 2316, 2560, 2561] rfl yg_wsX1_isName
set_option maxRecDepth 100000 in
theorem gX1_readLine_X1_isName : GoodIn wsX1_readLine (wsV RX1 83 RX1 yX1_isName wsX1_isName) := goodIn_app (ygc yCe_wsX1_readLine _ [257, 258, 259, 260] rfl rfl) ggX1_readLine_X1_isName
set_option maxRecDepth 100000 in
theorem yg_wsX1_readShape : wsX1_readShape.all goodWord = true := by decide +kernel
set_option maxRecDepth 100000 in
theorem ggX1_readLine_X1_readShape : GoodIn wsX1_readLine wsX1_readShape := ygc yCe_wsX1_readLine _ [782, 783, 256, 784, 785, 786, 787, 788, 260, 789, 790, 791, 1024, 1025, 1026, 1027, 1028, 1029, 1030, 1031, 263, 264, 1032, 265, 262, 1033, 1034, 1035, 1036, 1037, 1038, 1039, 1040, 1041, 1042, 2304, 2305, 2306, 2307, 2308, 2309, 2310, 2311, 2312, 2313, 2314, 2315, 2316, 2816, 2817, 2818, 2819, 2820, 2821, 2822, 2823, 2824, 2825, 2826, 2827, 2828, 2829, 2830, 2831, 2832, 2833, 2560, 2561] rfl yg_wsX1_readShape
set_option maxRecDepth 100000 in
theorem gX1_readLine_X1_readShape : GoodIn wsX1_readLine (wsV RX1 87 RX1 yX1_readShape wsX1_readShape) := goodIn_app (ygc yCe_wsX1_readLine _ [779, 780, 781, 260] rfl rfl) ggX1_readLine_X1_readShape
set_option maxRecDepth 100000 in
theorem yg_wsX1_readDeed : wsX1_readDeed.all goodWord = true := by decide +kernel
set_option maxRecDepth 100000 in
theorem ggX1_readLine_X1_readDeed : GoodIn wsX1_readLine wsX1_readDeed := ygc yCe_wsX1_readLine _ [1046, 1047, 256, 786, 787, 788, 260, 789, 790, 791, 1024, 1025, 1026, 1027, 1028, 1029, 1030, 1031, 263, 264, 1032, 265, 262, 1033, 1034, 1035, 1036, 1037, 1038, 1039, 1040, 1041, 1042, 1280, 1281, 1282, 1283, 1284, 1285, 1286, 2816, 2817, 2818, 2819, 2820, 2821, 2822, 2823, 2824, 2825, 2826, 2827, 2828, 2829, 2830, 2831, 2832, 2833, 2304, 2305, 2306, 2307, 2308, 2309, 2310, 2311, 2312, 2313, 2314, 2315, 2316, 2560, 2561] rfl yg_wsX1_readDeed
set_option maxRecDepth 100000 in
theorem gX1_readLine_X1_readDeed : GoodIn wsX1_readLine (wsV RX1 95 RX1 yX1_readDeed wsX1_readDeed) := goodIn_app (ygc yCe_wsX1_readLine _ [1043, 1044, 1045, 260] rfl rfl) ggX1_readLine_X1_readDeed
set_option maxRecDepth 100000 in
theorem yg_wsX1_readHouse : wsX1_readHouse.all goodWord = true := by decide +kernel
set_option maxRecDepth 100000 in
theorem ggX1_readLine_X1_readHouse : GoodIn wsX1_readLine wsX1_readHouse := ygc yCe_wsX1_readLine _ [1290, 1291, 1292, 790, 262, 1293, 1294, 1295, 1296, 260, 1297, 1298, 1299, 1300, 1301, 1302, 1028, 1029, 1030, 1031, 263, 264, 1032, 265, 256, 1033, 1034, 1035, 786, 787, 788, 789, 791, 1036, 1037, 1038, 1039, 1040, 1041, 1042, 1303, 1536, 1537, 1538, 1539, 1540, 1541, 1542, 1024, 1025, 1026, 1027, 1543, 1544, 1545, 1546, 1547, 2304, 2305, 2306, 2307, 2308, 2309, 2310, 2311, 2312, 2313, 2314, 2315, 2316, 2816, 2817, 2818, 2819, 2820, 2821, 2822, 2823, 2824, 2825, 2826, 2827, 2828, 2829, 2830, 2831, 2832, 2833, 2560, 2561] rfl yg_wsX1_readHouse
set_option maxRecDepth 100000 in
theorem gX1_readLine_X1_readHouse : GoodIn wsX1_readLine (wsV RX1 100 RX1 yX1_readHouse wsX1_readHouse) := goodIn_app (ygc yCe_wsX1_readLine _ [1287, 1288, 1289, 260] rfl rfl) ggX1_readLine_X1_readHouse
set_option maxRecDepth 100000 in
theorem yg_wsX1_readLawyer : wsX1_readLawyer.all goodWord = true := by decide +kernel
set_option maxRecDepth 100000 in
theorem ggX1_readLine_X1_readLawyer : GoodIn wsX1_readLine wsX1_readLawyer := ygc yCe_wsX1_readLine _ [1551, 1552, 1553, 1294, 1295, 1296, 260, 1297, 1298, 1299, 1300, 1301, 1302, 1028, 1029, 1030, 1031, 790, 263, 264, 1032, 265, 256, 262, 1033, 1034, 1035, 786, 787, 788, 789, 791, 1036, 1037, 1038, 1039, 1040, 1041, 1042, 1303, 1536, 1537, 1538, 1539, 1540, 1541, 1542, 2304, 2305, 2306, 2307, 2308, 2309, 2310, 2311, 2312, 2313, 2314, 2315, 2316, 2816, 2817, 2818, 2819, 2820, 2821, 2822, 2823, 2824, 2825, 2826, 2827, 2828, 2829, 2830, 2831, 2832, 2833, 2560, 2561] rfl yg_wsX1_readLawyer
set_option maxRecDepth 100000 in
theorem gX1_readLine_X1_readLawyer : GoodIn wsX1_readLine (wsV RX1 105 RX1 yX1_readLawyer wsX1_readLawyer) := goodIn_app (ygc yCe_wsX1_readLine _ [1548, 1549, 1550, 260] rfl rfl) ggX1_readLine_X1_readLawyer
set_option maxRecDepth 100000 in
theorem yg_wsX1_readHabit : wsX1_readHabit.all goodWord = true := by decide +kernel
set_option maxRecDepth 100000 in
theorem ggX1_readLine_X1_readHabit : GoodIn wsX1_readLine wsX1_readHabit := ygc yCe_wsX1_readLine _ [1557, 1558, 1294, 1295, 1296, 260, 1297, 1298, 1299, 1300, 1301, 1302, 1028, 1029, 1030, 1031, 790, 263, 264, 1032, 265, 256, 262, 1033, 1034, 1035, 786, 787, 788, 789, 791, 1036, 1037, 1038, 1039, 1040, 1041, 1042, 1303, 1536, 1537, 1538, 1539, 1540, 1541, 1542, 1559, 1792, 1793, 1794, 257, 258, 259, 261, 266, 267, 268, 269, 270, 271, 272, 273, 274, 275, 276, 277, 278, 279, 512, 513, 514, 515, 516, 517, 518, 519, 520, 521, 522, 523, 524, 525, 526, 527, 528, 529, 530, 531, 532, 533, 534, 535, 768, 769, 770, 771, 772, 773, 774, 775, 776, 777, 778, 1795, 1796, 1797, 1798, 1543, 1544, 1545, 1546, 1547, 1024, 1025, 1026, 1027, 1799, 1800, 1801, 1283, 1802, 1803, 1804, 1805, 2304, 2305, 2306, 2307, 2308, 2309, 2310, 2311, 2312, 2313, 2314, 2315, 2316, 2560, 2561, 2816, 2817, 2818, 2819, 2820, 2821, 2822, 2823, 2824, 2825, 2826, 2827, 2828, 2829, 2830, 2831, 2832, 2833] rfl yg_wsX1_readHabit
set_option maxRecDepth 100000 in
theorem gX1_readLine_X1_readHabit : GoodIn wsX1_readLine (wsV RX1 110 RX1 yX1_readHabit wsX1_readHabit) := goodIn_app (ygc yCe_wsX1_readLine _ [1554, 1555, 1556, 260] rfl rfl) ggX1_readLine_X1_readHabit
set_option maxRecDepth 100000 in
theorem yg_wsX1_readVow : wsX1_readVow.all goodWord = true := by decide +kernel
set_option maxRecDepth 100000 in
theorem ggX1_readLine_X1_readVow : GoodIn wsX1_readLine wsX1_readVow := ygc yCe_wsX1_readLine _ [1809, 1810, 1811, 256, 786, 787, 788, 260, 789, 790, 791, 1294, 1295, 1296, 1297, 1298, 1299, 1300, 1301, 1302, 1028, 1029, 1030, 1031, 263, 264, 1032, 265, 262, 1033, 1034, 1035, 1036, 1037, 1038, 1039, 1040, 1041, 1042, 1559, 1792, 1793, 1794, 257, 258, 259, 261, 266, 267, 268, 269, 270, 271, 272, 273, 274, 275, 276, 277, 278, 279, 512, 513, 514, 515, 516, 517, 518, 519, 520, 521, 522, 523, 524, 525, 526, 527, 528, 529, 530, 531, 532, 533, 534, 535, 768, 769, 770, 771, 772, 773, 774, 775, 776, 777, 778, 1024, 1025, 1026, 1027, 1812, 1813, 1814, 1795, 1796, 1797, 1798, 1543, 1544, 1545, 1546, 1547, 1815, 2048, 2049, 2050, 2051, 2052, 2053, 2054, 2055, 2056, 2816, 2817, 2818, 2819, 2820, 2821, 2822, 2823, 2824, 2825, 2826, 2827, 2828, 2829, 2830, 2831, 2832, 2833, 3072, 3073, 3074, 3075, 3076, 2304, 2305, 2306, 2307, 2308, 2309, 2310, 2311, 2312, 2313, 2314, 2315, 2316, 2560, 2561] rfl yg_wsX1_readVow
set_option maxRecDepth 100000 in
theorem gX1_readLine_X1_readVow : GoodIn wsX1_readLine (wsV RX1 115 RX1 yX1_readVow wsX1_readVow) := goodIn_app (ygc yCe_wsX1_readLine _ [1806, 1807, 1808, 260] rfl rfl) ggX1_readLine_X1_readVow
set_option maxRecDepth 100000 in
theorem yg_wsX1_readWant : wsX1_readWant.all goodWord = true := by decide +kernel
set_option maxRecDepth 100000 in
theorem ggX1_readLine_X1_readWant : GoodIn wsX1_readLine wsX1_readWant := ygc yCe_wsX1_readLine _ [2060, 2061, 2062, 256, 786, 787, 788, 260, 789, 790, 791, 1294, 1295, 1296, 1297, 1298, 1299, 1300, 1301, 1302, 1028, 1029, 1030, 1031, 263, 264, 1032, 265, 262, 1033, 1034, 1035, 1036, 1037, 1038, 1039, 1040, 1041, 1042, 1795, 1796, 1797, 1798, 1543, 1544, 1545, 1546, 1547, 2063, 2064, 2065, 2066, 2067, 2068, 2069, 2070, 2816, 2817, 2818, 2819, 2820, 2821, 2822, 2823, 2824, 2825, 2826, 2827, 2828, 2829, 2830, 2831, 2832, 2833, 3328, 3329, 3330, 2304, 2305, 2306, 2307, 2308, 2309, 2310, 2311, 2312, 2313, 2314, 2315, 2316, 2560, 2561] rfl yg_wsX1_readWant
set_option maxRecDepth 100000 in
theorem gX1_readLine_X1_readWant : GoodIn wsX1_readLine (wsV RX1 120 RX1 yX1_readWant wsX1_readWant) := goodIn_app (ygc yCe_wsX1_readLine _ [2057, 2058, 2059, 260] rfl rfl) ggX1_readLine_X1_readWant
set_option maxRecDepth 100000 in
theorem ggX1_readLine_X1_complain : GoodIn wsX1_readLine wsX1_complain := ygc yCe_wsX1_readLine _ [789, 790, 791, 2304, 2305, 2306, 2307, 2308, 2309, 2310, 2311, 2312, 2313, 2314, 2315, 2316] rfl yg_wsX1_complain
set_option maxRecDepth 100000 in
theorem gX1_readLine_X1_complain : GoodIn wsX1_readLine (wsV RX1 77 RX1 yX1_complain wsX1_complain) := goodIn_app (ygc yCe_wsX1_readLine _ [786, 787, 788, 260] rfl rfl) ggX1_readLine_X1_complain
noncomputable def yC_wsX1_readShape : List (List Cond) := [[.code yX1_readShape cX1_readShape 3 none], wsX1_readShape_r1, wsX1_readShape_r2, wsX10, wsX40, wsX30]
set_option maxRecDepth 100000 in
theorem yCe_wsX1_readShape : wsX1_readShape = yC_wsX1_readShape.flatten := rfl
set_option maxRecDepth 100000 in
theorem ggX1_readShape_X1_complain : GoodIn wsX1_readShape wsX1_complain := ygc yCe_wsX1_readShape _ [264, 265, 266, 768, 769, 770, 771, 772, 773, 774, 775, 776, 777, 778, 779, 780] rfl yg_wsX1_complain
set_option maxRecDepth 100000 in
theorem gX1_readShape_X1_complain : GoodIn wsX1_readShape (wsV RX1 77 RX1 yX1_complain wsX1_complain) := goodIn_app (ygc yCe_wsX1_readShape _ [260, 261, 262, 263] rfl rfl) ggX1_readShape_X1_complain
set_option maxRecDepth 100000 in
theorem yg_wsX1_needNumber : wsX1_needNumber.all goodWord = true := by decide +kernel
set_option maxRecDepth 100000 in
theorem ggX1_readShape_X1_needNumber : GoodIn wsX1_readShape wsX1_needNumber := ygc yCe_wsX1_readShape _ [270, 271, 272, 273, 263, 274, 265, 275, 276, 277, 278, 257, 279, 512, 513, 514, 260, 261, 262, 264, 266, 515, 516, 517, 518, 519, 520, 521, 768, 769, 770, 771, 772, 773, 774, 775, 776, 777, 778, 779, 780, 1280, 1281] rfl yg_wsX1_needNumber
set_option maxRecDepth 100000 in
theorem gX1_readShape_X1_needNumber : GoodIn wsX1_readShape (wsV RX1 126 RX1 yX1_needNumber wsX1_needNumber) := goodIn_app (ygc yCe_wsX1_readShape _ [267, 268, 269, 263] rfl rfl) ggX1_readShape_X1_needNumber
set_option maxRecDepth 100000 in
theorem ggX1_readShape_X1_readToken : GoodIn wsX1_readShape wsX1_readToken := ygc yCe_wsX1_readShape _ [274, 265, 275, 276, 277, 278, 257, 279, 512, 513, 263, 514, 260, 261, 262, 264, 266, 768, 769, 770, 771, 772, 773, 774, 775, 776, 777, 778, 779, 780, 1280, 1281] rfl yg_wsX1_readToken
set_option maxRecDepth 100000 in
theorem gX1_readShape_X1_readToken : GoodIn wsX1_readShape (wsV RX1 55 RX1 yX1_readToken wsX1_readToken) := goodIn_app (ygc yCe_wsX1_readShape _ [271, 272, 273, 263] rfl rfl) ggX1_readShape_X1_readToken
noncomputable def yC_wsX1_readDeed : List (List Cond) := [[.code yX1_readDeed cX1_readDeed 2 none], wsX1_readDeed_r1, wsX1_readDeed_r2, wsX40, wsX10, wsX30]
set_option maxRecDepth 100000 in
theorem yCe_wsX1_readDeed : wsX1_readDeed = yC_wsX1_readDeed.flatten := rfl
set_option maxRecDepth 100000 in
theorem ggX1_readDeed_X1_complain : GoodIn wsX1_readDeed wsX1_complain := ygc yCe_wsX1_readDeed _ [262, 263, 264, 1024, 1025, 1026, 1027, 1028, 1029, 1030, 1031, 1032, 1033, 1034, 1035, 1036] rfl yg_wsX1_complain
set_option maxRecDepth 100000 in
theorem gX1_readDeed_X1_complain : GoodIn wsX1_readDeed (wsV RX1 77 RX1 yX1_complain wsX1_complain) := goodIn_app (ygc yCe_wsX1_readDeed _ [258, 259, 260, 261] rfl rfl) ggX1_readDeed_X1_complain
set_option maxRecDepth 100000 in
theorem ggX1_readDeed_X1_needNumber : GoodIn wsX1_readDeed wsX1_needNumber := ygc yCe_wsX1_readDeed _ [268, 269, 270, 271, 261, 272, 263, 273, 274, 275, 276, 257, 277, 278, 279, 512, 258, 259, 260, 262, 264, 513, 514, 515, 516, 517, 518, 519, 1024, 1025, 1026, 1027, 1028, 1029, 1030, 1031, 1032, 1033, 1034, 1035, 1036, 1280, 1281] rfl yg_wsX1_needNumber
set_option maxRecDepth 100000 in
theorem gX1_readDeed_X1_needNumber : GoodIn wsX1_readDeed (wsV RX1 126 RX1 yX1_needNumber wsX1_needNumber) := goodIn_app (ygc yCe_wsX1_readDeed _ [265, 266, 267, 261] rfl rfl) ggX1_readDeed_X1_needNumber
set_option maxRecDepth 100000 in
theorem yg_wsX4_addDeed : wsX4_addDeed.all goodWord = true := by decide +kernel
set_option maxRecDepth 100000 in
theorem ggX1_readDeed_X4_addDeed : GoodIn wsX1_readDeed wsX4_addDeed := ygc yCe_wsX1_readDeed _ [524, 525, 526, 768, 769, 770, 771, 772, 773, 774, 775, 776, 777, 778, 779, 780, 781, 782, 783, 784, 785] rfl yg_wsX4_addDeed
set_option maxRecDepth 100000 in
theorem gX1_readDeed_X4_addDeed : GoodIn wsX1_readDeed (wsV RX1 132 RX4 yX4_addDeed wsX4_addDeed) := goodIn_app (ygc yCe_wsX1_readDeed _ [520, 521, 522, 523] rfl rfl) ggX1_readDeed_X4_addDeed
set_option maxRecDepth 100000 in
theorem ggX1_readDeed_X1_readToken : GoodIn wsX1_readDeed wsX1_readToken := ygc yCe_wsX1_readDeed _ [272, 263, 273, 274, 275, 276, 257, 277, 278, 279, 261, 512, 258, 259, 260, 262, 264, 1024, 1025, 1026, 1027, 1028, 1029, 1030, 1031, 1032, 1033, 1034, 1035, 1036, 1280, 1281] rfl yg_wsX1_readToken
set_option maxRecDepth 100000 in
theorem gX1_readDeed_X1_readToken : GoodIn wsX1_readDeed (wsV RX1 55 RX1 yX1_readToken wsX1_readToken) := goodIn_app (ygc yCe_wsX1_readDeed _ [269, 270, 271, 261] rfl rfl) ggX1_readDeed_X1_readToken
set_option maxRecDepth 100000 in
theorem yg_wsX1_needHouse : wsX1_needHouse.all goodWord = true := by decide +kernel
noncomputable def yC_wsX1_readHouse : List (List Cond) := [[.code yX1_readHouse cX1_readHouse 5 none], wsX1_readHouse_r1, wsX1_readHouse_r2, wsX1_readHouse_r3, wsX10, wsX40, wsX30]
set_option maxRecDepth 100000 in
theorem yCe_wsX1_readHouse : wsX1_readHouse = yC_wsX1_readHouse.flatten := rfl
set_option maxRecDepth 100000 in
theorem ggX1_readHouse_X1_needHouse : GoodIn wsX1_readHouse wsX1_needHouse := ygc yCe_wsX1_readHouse _ [265, 266, 267, 268, 269, 270, 271, 272, 273, 264, 274, 258, 275, 276, 277, 278, 279, 259, 512, 513, 514, 515, 516, 517, 518, 519, 520, 521, 522, 523, 524, 525, 526, 1024, 1025, 1026, 1027, 1028, 1029, 1030, 1031, 1032, 1033, 1034, 1035, 1036, 1536, 1537] rfl yg_wsX1_needHouse
set_option maxRecDepth 100000 in
theorem gX1_readHouse_X1_needHouse : GoodIn wsX1_readHouse (wsV RX1 136 RX1 yX1_needHouse wsX1_needHouse) := goodIn_app (ygc yCe_wsX1_readHouse _ [261, 262, 263, 264] rfl rfl) ggX1_readHouse_X1_needHouse
set_option maxRecDepth 100000 in
theorem yg_wsX1_tellOnce : wsX1_tellOnce.all goodWord = true := by decide +kernel
set_option maxRecDepth 100000 in
theorem ggX1_readHouse_X1_tellOnce : GoodIn wsX1_readHouse wsX1_tellOnce := ygc yCe_wsX1_readHouse _ [530, 279, 531, 525, 532, 515, 516, 517, 264, 518, 258, 519, 533, 534, 1024, 1025, 1026, 1027, 1028, 1029, 1030, 1031, 1032, 1033, 1034, 1035, 1036] rfl yg_wsX1_tellOnce
set_option maxRecDepth 100000 in
theorem gX1_readHouse_X1_tellOnce : GoodIn wsX1_readHouse (wsV RX1 140 RX1 yX1_tellOnce wsX1_tellOnce) := goodIn_app (ygc yCe_wsX1_readHouse _ [527, 528, 529, 264] rfl rfl) ggX1_readHouse_X1_tellOnce
set_option maxRecDepth 100000 in
theorem ggX1_readHouse_X1_needNumber : GoodIn wsX1_readHouse wsX1_needNumber := ygc yCe_wsX1_readHouse _ [770, 271, 272, 273, 264, 274, 258, 275, 276, 277, 278, 279, 259, 512, 513, 514, 515, 516, 517, 518, 519, 520, 521, 522, 523, 524, 525, 526, 1024, 1025, 1026, 1027, 1028, 1029, 1030, 1031, 1032, 1033, 1034, 1035, 1036, 1536, 1537] rfl yg_wsX1_needNumber
set_option maxRecDepth 100000 in
theorem gX1_readHouse_X1_needNumber : GoodIn wsX1_readHouse (wsV RX1 126 RX1 yX1_needNumber wsX1_needNumber) := goodIn_app (ygc yCe_wsX1_readHouse _ [535, 768, 769, 264] rfl rfl) ggX1_readHouse_X1_needNumber
set_option maxRecDepth 100000 in
theorem ggX1_readHouse_X1_readToken : GoodIn wsX1_readHouse wsX1_readToken := ygc yCe_wsX1_readHouse _ [274, 258, 275, 276, 277, 278, 279, 259, 512, 513, 264, 514, 515, 516, 517, 518, 519, 1024, 1025, 1026, 1027, 1028, 1029, 1030, 1031, 1032, 1033, 1034, 1035, 1036, 1536, 1537] rfl yg_wsX1_readToken
set_option maxRecDepth 100000 in
theorem gX1_readHouse_X1_readToken : GoodIn wsX1_readHouse (wsV RX1 55 RX1 yX1_readToken wsX1_readToken) := goodIn_app (ygc yCe_wsX1_readHouse _ [271, 272, 273, 264] rfl rfl) ggX1_readHouse_X1_readToken
set_option maxRecDepth 100000 in
theorem yg_wsX1_numberHere : wsX1_numberHere.all goodWord = true := by decide +kernel
set_option maxRecDepth 100000 in
theorem ggX1_readHouse_X1_numberHere : GoodIn wsX1_readHouse wsX1_numberHere := ygc yCe_wsX1_readHouse _ [523, 259, 279, 275, 276, 278, 258, 515, 516, 517, 264, 518, 519, 524, 525, 526, 1024, 1025, 1026, 1027, 1028, 1029, 1030, 1031, 1032, 1033, 1034, 1035, 1036, 1536, 1537] rfl yg_wsX1_numberHere
set_option maxRecDepth 100000 in
theorem gX1_readHouse_X1_numberHere : GoodIn wsX1_readHouse (wsV RX1 147 RX1 yX1_numberHere wsX1_numberHere) := goodIn_app (ygc yCe_wsX1_readHouse _ [520, 521, 522, 264] rfl rfl) ggX1_readHouse_X1_numberHere
set_option maxRecDepth 100000 in
theorem yg_wsX1_noteDeed : wsX1_noteDeed.all goodWord = true := by decide +kernel
set_option maxRecDepth 100000 in
theorem ggX1_readHouse_X1_noteDeed : GoodIn wsX1_readHouse wsX1_noteDeed := ygc yCe_wsX1_readHouse _ [774, 775, 267, 268, 269, 270, 1024, 1025, 1026, 1027, 1028, 1029, 1030, 1031, 1032, 1033, 1034, 1035, 1036] rfl yg_wsX1_noteDeed
set_option maxRecDepth 100000 in
theorem gX1_readHouse_X1_noteDeed : GoodIn wsX1_readHouse (wsV RX1 150 RX1 yX1_noteDeed wsX1_noteDeed) := goodIn_app (ygc yCe_wsX1_readHouse _ [771, 772, 773, 264] rfl rfl) ggX1_readHouse_X1_noteDeed
noncomputable def yC_wsX1_readLawyer : List (List Cond) := [[.code yX1_readLawyer cX1_readLawyer 3 none], wsX1_readLawyer_r1, wsX1_readLawyer_r2, wsX10, wsX40, wsX30]
set_option maxRecDepth 100000 in
theorem yCe_wsX1_readLawyer : wsX1_readLawyer = yC_wsX1_readLawyer.flatten := rfl
set_option maxRecDepth 100000 in
theorem ggX1_readLawyer_X1_needHouse : GoodIn wsX1_readLawyer wsX1_needHouse := ygc yCe_wsX1_readLawyer _ [262, 263, 264, 265, 266, 267, 268, 269, 270, 261, 271, 272, 273, 274, 275, 276, 277, 278, 279, 512, 513, 514, 515, 516, 517, 518, 519, 520, 521, 522, 523, 524, 525, 768, 769, 770, 771, 772, 773, 774, 775, 776, 777, 778, 779, 780, 1280, 1281] rfl yg_wsX1_needHouse
set_option maxRecDepth 100000 in
theorem gX1_readLawyer_X1_needHouse : GoodIn wsX1_readLawyer (wsV RX1 136 RX1 yX1_needHouse wsX1_needHouse) := goodIn_app (ygc yCe_wsX1_readLawyer _ [258, 259, 260, 261] rfl rfl) ggX1_readLawyer_X1_needHouse
set_option maxRecDepth 100000 in
theorem ggX1_readLawyer_X1_tellOnce : GoodIn wsX1_readLawyer wsX1_tellOnce := ygc yCe_wsX1_readLawyer _ [529, 277, 530, 524, 531, 514, 515, 516, 261, 517, 272, 518, 532, 533, 768, 769, 770, 771, 772, 773, 774, 775, 776, 777, 778, 779, 780] rfl yg_wsX1_tellOnce
set_option maxRecDepth 100000 in
theorem gX1_readLawyer_X1_tellOnce : GoodIn wsX1_readLawyer (wsV RX1 140 RX1 yX1_tellOnce wsX1_tellOnce) := goodIn_app (ygc yCe_wsX1_readLawyer _ [526, 527, 528, 261] rfl rfl) ggX1_readLawyer_X1_tellOnce
set_option maxRecDepth 100000 in
theorem ggX1_readLawyer_X1_readToken : GoodIn wsX1_readLawyer wsX1_readToken := ygc yCe_wsX1_readLawyer _ [271, 272, 273, 274, 275, 276, 277, 278, 279, 512, 261, 513, 514, 515, 516, 517, 518, 768, 769, 770, 771, 772, 773, 774, 775, 776, 777, 778, 779, 780, 1280, 1281] rfl yg_wsX1_readToken
set_option maxRecDepth 100000 in
theorem gX1_readLawyer_X1_readToken : GoodIn wsX1_readLawyer (wsV RX1 55 RX1 yX1_readToken wsX1_readToken) := goodIn_app (ygc yCe_wsX1_readLawyer _ [268, 269, 270, 261] rfl rfl) ggX1_readLawyer_X1_readToken
noncomputable def yC_wsX1_readHabit : List (List Cond) := [[.code yX1_readHabit cX1_readHabit 5 none], wsX1_readHabit_r1, wsX1_readHabit_r2, wsX1_readHabit_r3, wsX1_readHabit_r4, wsX1_readHabit_r5, wsX1_readHabit_r6, wsX10, wsX30, wsX40]
set_option maxRecDepth 100000 in
theorem yCe_wsX1_readHabit : wsX1_readHabit = yC_wsX1_readHabit.flatten := rfl
set_option maxRecDepth 100000 in
theorem ggX1_readHabit_X1_needHouse : GoodIn wsX1_readHabit wsX1_needHouse := ygc yCe_wsX1_readHabit _ [261, 262, 263, 264, 265, 266, 267, 268, 269, 260, 270, 271, 272, 273, 274, 275, 276, 277, 278, 279, 512, 513, 514, 515, 516, 517, 518, 519, 520, 521, 522, 523, 524, 1792, 1793, 1794, 1795, 1796, 1797, 1798, 1799, 1800, 1801, 1802, 1803, 1804, 2048, 2049] rfl yg_wsX1_needHouse
set_option maxRecDepth 100000 in
theorem gX1_readHabit_X1_needHouse : GoodIn wsX1_readHabit (wsV RX1 136 RX1 yX1_needHouse wsX1_needHouse) := goodIn_app (ygc yCe_wsX1_readHabit _ [257, 258, 259, 260] rfl rfl) ggX1_readHabit_X1_needHouse
set_option maxRecDepth 100000 in
theorem ggX1_readHabit_X1_tellOnce : GoodIn wsX1_readHabit wsX1_tellOnce := ygc yCe_wsX1_readHabit _ [528, 276, 529, 523, 530, 513, 514, 515, 260, 516, 271, 517, 531, 532, 1792, 1793, 1794, 1795, 1796, 1797, 1798, 1799, 1800, 1801, 1802, 1803, 1804] rfl yg_wsX1_tellOnce
set_option maxRecDepth 100000 in
theorem gX1_readHabit_X1_tellOnce : GoodIn wsX1_readHabit (wsV RX1 140 RX1 yX1_tellOnce wsX1_tellOnce) := goodIn_app (ygc yCe_wsX1_readHabit _ [525, 526, 527, 260] rfl rfl) ggX1_readHabit_X1_tellOnce
set_option maxRecDepth 100000 in
theorem yg_wsX1_needKind : wsX1_needKind.all goodWord = true := by decide +kernel
set_option maxRecDepth 100000 in
theorem ggX1_readHabit_X1_needKind : GoodIn wsX1_readHabit wsX1_needKind := ygc yCe_wsX1_readHabit _ [768, 276, 267, 268, 269, 260, 270, 271, 272, 273, 274, 275, 277, 278, 279, 512, 513, 514, 515, 516, 517, 769, 770, 771, 772, 773, 774, 775, 776, 777, 778, 779, 780, 781, 782, 783, 784, 785, 786, 787, 788, 789, 790, 791, 1024, 1025, 1026, 1027, 1028, 1029, 1030, 1031, 1032, 1033, 1034, 1035, 1036, 1037, 1038, 1039, 1040, 1041, 1042, 1043, 1044, 1045, 1046, 1047, 1280, 1281, 1282, 1283, 1284, 1285, 1792, 1793, 1794, 1795, 1796, 1797, 1798, 1799, 1800, 1801, 1802, 1803, 1804, 2048, 2049] rfl yg_wsX1_needKind
set_option maxRecDepth 100000 in
theorem gX1_readHabit_X1_needKind : GoodIn wsX1_readHabit (wsV RX1 160 RX1 yX1_needKind wsX1_needKind) := goodIn_app (ygc yCe_wsX1_readHabit _ [533, 534, 535, 260] rfl rfl) ggX1_readHabit_X1_needKind
set_option maxRecDepth 100000 in
theorem yg_wsX1_needDeed : wsX1_needDeed.all goodWord = true := by decide +kernel
set_option maxRecDepth 100000 in
theorem ggX1_readHabit_X1_needDeed : GoodIn wsX1_readHabit wsX1_needDeed := ygc yCe_wsX1_readHabit _ [1289, 267, 268, 269, 260, 270, 271, 272, 273, 274, 275, 276, 277, 278, 279, 512, 513, 514, 515, 516, 517, 518, 519, 520, 521, 522, 523, 524, 1290, 1291, 1292, 1293, 1294, 263, 264, 265, 266, 1792, 1793, 1794, 1795, 1796, 1797, 1798, 1799, 1800, 1801, 1802, 1803, 1804, 2048, 2049] rfl yg_wsX1_needDeed
set_option maxRecDepth 100000 in
theorem gX1_readHabit_X1_needDeed : GoodIn wsX1_readHabit (wsV RX1 163 RX1 yX1_needDeed wsX1_needDeed) := goodIn_app (ygc yCe_wsX1_readHabit _ [1286, 1287, 1288, 260] rfl rfl) ggX1_readHabit_X1_needDeed
set_option maxRecDepth 100000 in
theorem ggX1_readHabit_X1_needNumber : GoodIn wsX1_readHabit wsX1_needNumber := ygc yCe_wsX1_readHabit _ [1298, 267, 268, 269, 260, 270, 271, 272, 273, 274, 275, 276, 277, 278, 279, 512, 513, 514, 515, 516, 517, 518, 519, 520, 521, 522, 523, 524, 1792, 1793, 1794, 1795, 1796, 1797, 1798, 1799, 1800, 1801, 1802, 1803, 1804, 2048, 2049] rfl yg_wsX1_needNumber
set_option maxRecDepth 100000 in
theorem gX1_readHabit_X1_needNumber : GoodIn wsX1_readHabit (wsV RX1 126 RX1 yX1_needNumber wsX1_needNumber) := goodIn_app (ygc yCe_wsX1_readHabit _ [1295, 1296, 1297, 260] rfl rfl) ggX1_readHabit_X1_needNumber
set_option maxRecDepth 100000 in
theorem yg_wsX4_setHabit : wsX4_setHabit.all goodWord = true := by decide +kernel
set_option maxRecDepth 100000 in
theorem ggX1_readHabit_X4_setHabit : GoodIn wsX1_readHabit wsX4_setHabit := ygc yCe_wsX1_readHabit _ [1303, 1536, 1537, 1538, 2304, 2305, 2306, 2307, 2308, 2309, 2310, 2311, 2312, 2313, 2314, 2315, 2316, 2317, 2318, 2319, 2320, 2321] rfl yg_wsX4_setHabit
set_option maxRecDepth 100000 in
theorem gX1_readHabit_X4_setHabit : GoodIn wsX1_readHabit (wsV RX1 166 RX4 yX4_setHabit wsX4_setHabit) := goodIn_app (ygc yCe_wsX1_readHabit _ [1299, 1300, 1301, 1302] rfl rfl) ggX1_readHabit_X4_setHabit
set_option maxRecDepth 100000 in
theorem ggX1_readHabit_X1_readToken : GoodIn wsX1_readHabit wsX1_readToken := ygc yCe_wsX1_readHabit _ [270, 271, 272, 273, 274, 275, 276, 277, 278, 279, 260, 512, 513, 514, 515, 516, 517, 1792, 1793, 1794, 1795, 1796, 1797, 1798, 1799, 1800, 1801, 1802, 1803, 1804, 2048, 2049] rfl yg_wsX1_readToken
set_option maxRecDepth 100000 in
theorem gX1_readHabit_X1_readToken : GoodIn wsX1_readHabit (wsV RX1 55 RX1 yX1_readToken wsX1_readToken) := goodIn_app (ygc yCe_wsX1_readHabit _ [267, 268, 269, 260] rfl rfl) ggX1_readHabit_X1_readToken
noncomputable def yC_wsX1_readVow : List (List Cond) := [[.code yX1_readVow cX1_readVow 5 none], wsX1_readVow_r1, wsX1_readVow_r2, wsX1_readVow_r3, wsX1_readVow_r4, wsX1_readVow_r5, wsX1_readVow_r6, wsX40, wsX50, wsX10, wsX30]
set_option maxRecDepth 100000 in
theorem yCe_wsX1_readVow : wsX1_readVow = yC_wsX1_readVow.flatten := rfl
set_option maxRecDepth 100000 in
theorem ggX1_readVow_X1_complain : GoodIn wsX1_readVow wsX1_complain := ygc yCe_wsX1_readVow _ [263, 264, 265, 2304, 2305, 2306, 2307, 2308, 2309, 2310, 2311, 2312, 2313, 2314, 2315, 2316] rfl yg_wsX1_complain
set_option maxRecDepth 100000 in
theorem gX1_readVow_X1_complain : GoodIn wsX1_readVow (wsV RX1 77 RX1 yX1_complain wsX1_complain) := goodIn_app (ygc yCe_wsX1_readVow _ [259, 260, 261, 262] rfl rfl) ggX1_readVow_X1_complain
set_option maxRecDepth 100000 in
theorem ggX1_readVow_X1_needHouse : GoodIn wsX1_readVow wsX1_needHouse := ygc yCe_wsX1_readVow _ [269, 270, 271, 272, 273, 274, 275, 276, 277, 262, 278, 264, 279, 512, 513, 514, 258, 515, 516, 517, 518, 259, 260, 261, 263, 265, 519, 520, 521, 522, 523, 524, 525, 2304, 2305, 2306, 2307, 2308, 2309, 2310, 2311, 2312, 2313, 2314, 2315, 2316, 2560, 2561] rfl yg_wsX1_needHouse
set_option maxRecDepth 100000 in
theorem gX1_readVow_X1_needHouse : GoodIn wsX1_readVow (wsV RX1 136 RX1 yX1_needHouse wsX1_needHouse) := goodIn_app (ygc yCe_wsX1_readVow _ [266, 267, 268, 262] rfl rfl) ggX1_readVow_X1_needHouse
set_option maxRecDepth 100000 in
theorem ggX1_readVow_X1_needKind : GoodIn wsX1_readVow wsX1_needKind := ygc yCe_wsX1_readVow _ [529, 258, 275, 276, 277, 262, 278, 264, 279, 512, 513, 514, 515, 516, 517, 518, 259, 260, 261, 263, 265, 530, 531, 532, 533, 534, 535, 768, 769, 770, 771, 772, 773, 774, 775, 776, 777, 778, 779, 780, 781, 782, 783, 784, 785, 786, 787, 788, 789, 790, 791, 1024, 1025, 1026, 1027, 1028, 1029, 1030, 1031, 1032, 1033, 1034, 1035, 1036, 1037, 1038, 1039, 1040, 1041, 1042, 1043, 1044, 1045, 1046, 2304, 2305, 2306, 2307, 2308, 2309, 2310, 2311, 2312, 2313, 2314, 2315, 2316, 2560, 2561] rfl yg_wsX1_needKind
set_option maxRecDepth 100000 in
theorem gX1_readVow_X1_needKind : GoodIn wsX1_readVow (wsV RX1 160 RX1 yX1_needKind wsX1_needKind) := goodIn_app (ygc yCe_wsX1_readVow _ [526, 527, 528, 262] rfl rfl) ggX1_readVow_X1_needKind
set_option maxRecDepth 100000 in
theorem ggX1_readVow_X1_needNumber : GoodIn wsX1_readVow wsX1_needNumber := ygc yCe_wsX1_readVow _ [1282, 275, 276, 277, 262, 278, 264, 279, 512, 513, 514, 258, 515, 516, 517, 518, 259, 260, 261, 263, 265, 519, 520, 521, 522, 523, 524, 525, 2304, 2305, 2306, 2307, 2308, 2309, 2310, 2311, 2312, 2313, 2314, 2315, 2316, 2560, 2561] rfl yg_wsX1_needNumber
set_option maxRecDepth 100000 in
theorem gX1_readVow_X1_needNumber : GoodIn wsX1_readVow (wsV RX1 126 RX1 yX1_needNumber wsX1_needNumber) := goodIn_app (ygc yCe_wsX1_readVow _ [1047, 1280, 1281, 262] rfl rfl) ggX1_readVow_X1_needNumber
set_option maxRecDepth 100000 in
theorem yg_wsX7_isDepth : wsX7_isDepth.all goodWord = true := by decide +kernel
set_option maxRecDepth 100000 in
theorem ggX1_readVow_X7_isDepth : GoodIn wsX1_readVow wsX7_isDepth := ygc yCe_wsX1_readVow _ [1284, 1285, 523, 524, 525] rfl yg_wsX7_isDepth
set_option maxRecDepth 100000 in
theorem gX1_readVow_X7_isDepth_n177 : GoodIn wsX1_readVow (wsX7_isDepth) := ggX1_readVow_X7_isDepth
set_option maxRecDepth 100000 in
theorem ggX1_readVow_X1_needDeed : GoodIn wsX1_readVow wsX1_needDeed := ygc yCe_wsX1_readVow _ [1289, 275, 276, 277, 262, 278, 264, 279, 512, 513, 514, 258, 515, 516, 517, 518, 259, 260, 261, 263, 265, 519, 520, 521, 522, 523, 524, 525, 1290, 1291, 1292, 1293, 1294, 271, 272, 273, 274, 2304, 2305, 2306, 2307, 2308, 2309, 2310, 2311, 2312, 2313, 2314, 2315, 2316, 2560, 2561] rfl yg_wsX1_needDeed
set_option maxRecDepth 100000 in
theorem gX1_readVow_X1_needDeed : GoodIn wsX1_readVow (wsV RX1 163 RX1 yX1_needDeed wsX1_needDeed) := goodIn_app (ygc yCe_wsX1_readVow _ [1286, 1287, 1288, 262] rfl rfl) ggX1_readVow_X1_needDeed
set_option maxRecDepth 100000 in
theorem yg_wsX5_append : wsX5_append.all goodWord = true := by decide +kernel
set_option maxRecDepth 100000 in
theorem ggX1_readVow_X5_append : GoodIn wsX1_readVow wsX5_append := ygc yCe_wsX1_readVow _ [1299, 1300, 1301, 1302, 1303, 1536, 2048, 2049, 2050, 2051, 2052] rfl yg_wsX5_append
set_option maxRecDepth 100000 in
theorem gX1_readVow_X5_append : GoodIn wsX1_readVow (wsV RX1 181 RX5 yX5_append wsX5_append) := goodIn_app (ygc yCe_wsX1_readVow _ [1295, 1296, 1297, 1298] rfl rfl) ggX1_readVow_X5_append
set_option maxRecDepth 100000 in
theorem ggX1_readVow_X1_readToken : GoodIn wsX1_readVow wsX1_readToken := ygc yCe_wsX1_readVow _ [278, 264, 279, 512, 513, 514, 258, 515, 516, 517, 262, 518, 259, 260, 261, 263, 265, 2304, 2305, 2306, 2307, 2308, 2309, 2310, 2311, 2312, 2313, 2314, 2315, 2316, 2560, 2561] rfl yg_wsX1_readToken
set_option maxRecDepth 100000 in
theorem gX1_readVow_X1_readToken : GoodIn wsX1_readVow (wsV RX1 55 RX1 yX1_readToken wsX1_readToken) := goodIn_app (ygc yCe_wsX1_readVow _ [275, 276, 277, 262] rfl rfl) ggX1_readVow_X1_readToken
noncomputable def yC_wsX1_readWant : List (List Cond) := [[.code yX1_readWant cX1_readWant 3 none], wsX1_readWant_r1, wsX1_readWant_r2, wsX1_readWant_r3, wsX40, wsX60, wsX10, wsX30]
set_option maxRecDepth 100000 in
theorem yCe_wsX1_readWant : wsX1_readWant = yC_wsX1_readWant.flatten := rfl
set_option maxRecDepth 100000 in
theorem ggX1_readWant_X1_complain : GoodIn wsX1_readWant wsX1_complain := ygc yCe_wsX1_readWant _ [263, 264, 265, 1536, 1537, 1538, 1539, 1540, 1541, 1542, 1543, 1544, 1545, 1546, 1547, 1548] rfl yg_wsX1_complain
set_option maxRecDepth 100000 in
theorem gX1_readWant_X1_complain : GoodIn wsX1_readWant (wsV RX1 77 RX1 yX1_complain wsX1_complain) := goodIn_app (ygc yCe_wsX1_readWant _ [259, 260, 261, 262] rfl rfl) ggX1_readWant_X1_complain
set_option maxRecDepth 100000 in
theorem ggX1_readWant_X1_needHouse : GoodIn wsX1_readWant wsX1_needHouse := ygc yCe_wsX1_readWant _ [269, 270, 271, 272, 273, 274, 275, 276, 277, 262, 278, 264, 279, 512, 513, 514, 258, 515, 516, 517, 518, 259, 260, 261, 263, 265, 519, 520, 521, 522, 523, 524, 525, 1536, 1537, 1538, 1539, 1540, 1541, 1542, 1543, 1544, 1545, 1546, 1547, 1548, 1792, 1793] rfl yg_wsX1_needHouse
set_option maxRecDepth 100000 in
theorem gX1_readWant_X1_needHouse : GoodIn wsX1_readWant (wsV RX1 136 RX1 yX1_needHouse wsX1_needHouse) := goodIn_app (ygc yCe_wsX1_readWant _ [266, 267, 268, 262] rfl rfl) ggX1_readWant_X1_needHouse
set_option maxRecDepth 100000 in
theorem ggX1_readWant_X1_needDeed : GoodIn wsX1_readWant wsX1_needDeed := ygc yCe_wsX1_readWant _ [529, 275, 276, 277, 262, 278, 264, 279, 512, 513, 514, 258, 515, 516, 517, 518, 259, 260, 261, 263, 265, 519, 520, 521, 522, 523, 524, 525, 530, 531, 532, 533, 534, 271, 272, 273, 274, 1536, 1537, 1538, 1539, 1540, 1541, 1542, 1543, 1544, 1545, 1546, 1547, 1548, 1792, 1793] rfl yg_wsX1_needDeed
set_option maxRecDepth 100000 in
theorem gX1_readWant_X1_needDeed : GoodIn wsX1_readWant (wsV RX1 163 RX1 yX1_needDeed wsX1_needDeed) := goodIn_app (ygc yCe_wsX1_readWant _ [526, 527, 528, 262] rfl rfl) ggX1_readWant_X1_needDeed
set_option maxRecDepth 100000 in
theorem yg_wsX6_append : wsX6_append.all goodWord = true := by decide +kernel
set_option maxRecDepth 100000 in
theorem ggX1_readWant_X6_append : GoodIn wsX1_readWant wsX6_append := ygc yCe_wsX1_readWant _ [771, 772, 773, 774, 1280, 1281, 1282] rfl yg_wsX6_append
set_option maxRecDepth 100000 in
theorem gX1_readWant_X6_append : GoodIn wsX1_readWant (wsV RX1 192 RX6 yX6_append wsX6_append) := goodIn_app (ygc yCe_wsX1_readWant _ [535, 768, 769, 770] rfl rfl) ggX1_readWant_X6_append
set_option maxRecDepth 100000 in
theorem ggX1_readWant_X1_readToken : GoodIn wsX1_readWant wsX1_readToken := ygc yCe_wsX1_readWant _ [278, 264, 279, 512, 513, 514, 258, 515, 516, 517, 262, 518, 259, 260, 261, 263, 265, 1536, 1537, 1538, 1539, 1540, 1541, 1542, 1543, 1544, 1545, 1546, 1547, 1548, 1792, 1793] rfl yg_wsX1_readToken
set_option maxRecDepth 100000 in
theorem gX1_readWant_X1_readToken : GoodIn wsX1_readWant (wsV RX1 55 RX1 yX1_readToken wsX1_readToken) := goodIn_app (ygc yCe_wsX1_readWant _ [275, 276, 277, 262] rfl rfl) ggX1_readWant_X1_readToken
set_option maxRecDepth 100000 in
theorem ggX1_needStroke_X1_complain : GoodIn wsX1_needStroke wsX1_complain := goodIn_r _ [7, 8, 9, 10, 11, 12, 13, 14, 15, 16, 17, 18, 19, 20, 21, 22] rfl yg_wsX1_complain
set_option maxRecDepth 100000 in
theorem gX1_needStroke_X1_complain : GoodIn wsX1_needStroke (wsV RX1 77 RX1 yX1_complain wsX1_complain) := goodIn_app (goodIn_r _ [3, 4, 5, 6] rfl rfl) ggX1_needStroke_X1_complain
set_option maxRecDepth 100000 in
theorem ggX1_tellOnce_X7_bit : GoodIn wsX1_tellOnce wsX7_bit := goodIn_r _ [4] rfl yg_wsX7_bit
set_option maxRecDepth 100000 in
theorem gX1_tellOnce_X7_bit_n195 : GoodIn wsX1_tellOnce (wsX7_bit) := ggX1_tellOnce_X7_bit
set_option maxRecDepth 100000 in
theorem ggX1_tellOnce_X1_complain : GoodIn wsX1_tellOnce wsX1_complain := goodIn_r _ [9, 10, 11, 14, 15, 16, 17, 18, 19, 20, 21, 22, 23, 24, 25, 26] rfl yg_wsX1_complain
set_option maxRecDepth 100000 in
theorem gX1_tellOnce_X1_complain : GoodIn wsX1_tellOnce (wsV RX1 77 RX1 yX1_complain wsX1_complain) := goodIn_app (goodIn_r _ [5, 6, 7, 8] rfl rfl) ggX1_tellOnce_X1_complain
set_option maxRecDepth 100000 in
theorem ggX1_tellOnce_X7_withBit : GoodIn wsX1_tellOnce wsX7_withBit := goodIn_r _ [13] rfl yg_wsX7_withBit
set_option maxRecDepth 100000 in
theorem gX1_tellOnce_X7_withBit_n198 : GoodIn wsX1_tellOnce (wsX7_withBit) := ggX1_tellOnce_X7_withBit
noncomputable def yC_wsX1_needHouse : List (List Cond) := [[.code yX1_needHouse cX1_needHouse 2 (some .int)], wsX1_needHouse_r1, wsX1_needHouse_r2, wsX10, wsX30]
set_option maxRecDepth 100000 in
theorem yCe_wsX1_needHouse : wsX1_needHouse = yC_wsX1_needHouse.flatten := rfl
set_option maxRecDepth 100000 in
theorem ggX1_needHouse_X1_readToken : GoodIn wsX1_needHouse wsX1_readToken := ygc yCe_wsX1_needHouse _ [265, 266, 267, 268, 269, 270, 271, 272, 273, 274, 264, 275, 276, 277, 278, 279, 512, 768, 769, 770, 771, 772, 773, 774, 775, 776, 777, 778, 779, 780, 1024, 1025] rfl yg_wsX1_readToken
set_option maxRecDepth 100000 in
theorem gX1_needHouse_X1_readToken : GoodIn wsX1_needHouse (wsV RX1 55 RX1 yX1_readToken wsX1_readToken) := goodIn_app (ygc yCe_wsX1_needHouse _ [261, 262, 263, 264] rfl rfl) ggX1_needHouse_X1_readToken
set_option maxRecDepth 100000 in
theorem ggX1_needHouse_X1_numberHere : GoodIn wsX1_needHouse wsX1_numberHere := ygc yCe_wsX1_needHouse _ [516, 272, 271, 267, 268, 270, 266, 276, 277, 278, 264, 279, 512, 517, 518, 519, 768, 769, 770, 771, 772, 773, 774, 775, 776, 777, 778, 779, 780, 1024, 1025] rfl yg_wsX1_numberHere
set_option maxRecDepth 100000 in
theorem gX1_needHouse_X1_numberHere : GoodIn wsX1_needHouse (wsV RX1 147 RX1 yX1_numberHere wsX1_numberHere) := goodIn_app (ygc yCe_wsX1_needHouse _ [513, 514, 515, 264] rfl rfl) ggX1_needHouse_X1_numberHere
noncomputable def yC_wsX1_needDeed : List (List Cond) := [[.code yX1_needDeed cX1_needDeed 1 (some .int)], wsX1_needDeed_r1, wsX1_needDeed_r2, wsX10, wsX30]
set_option maxRecDepth 100000 in
theorem yCe_wsX1_needDeed : wsX1_needDeed = yC_wsX1_needDeed.flatten := rfl
set_option maxRecDepth 100000 in
theorem ggX1_needDeed_X1_readToken : GoodIn wsX1_needDeed wsX1_readToken := ygc yCe_wsX1_needDeed _ [260, 261, 262, 263, 264, 265, 266, 267, 268, 269, 259, 270, 271, 272, 273, 274, 275, 768, 769, 770, 771, 772, 773, 774, 775, 776, 777, 778, 779, 780, 1024, 1025] rfl yg_wsX1_readToken
set_option maxRecDepth 100000 in
theorem gX1_needDeed_X1_readToken : GoodIn wsX1_needDeed (wsV RX1 55 RX1 yX1_readToken wsX1_readToken) := goodIn_app (ygc yCe_wsX1_needDeed _ [256, 257, 258, 259] rfl rfl) ggX1_needDeed_X1_readToken
set_option maxRecDepth 100000 in
theorem ggX1_needDeed_X1_numberHere : GoodIn wsX1_needDeed wsX1_numberHere := ygc yCe_wsX1_needDeed _ [279, 267, 266, 262, 263, 265, 261, 271, 272, 273, 259, 274, 275, 512, 513, 514, 768, 769, 770, 771, 772, 773, 774, 775, 776, 777, 778, 779, 780, 1024, 1025] rfl yg_wsX1_numberHere
set_option maxRecDepth 100000 in
theorem gX1_needDeed_X1_numberHere : GoodIn wsX1_needDeed (wsV RX1 147 RX1 yX1_numberHere wsX1_numberHere) := goodIn_app (ygc yCe_wsX1_needDeed _ [276, 277, 278, 259] rfl rfl) ggX1_needDeed_X1_numberHere
set_option maxRecDepth 100000 in
theorem ggX1_needDeed_X1_noteDeed : GoodIn wsX1_needDeed wsX1_noteDeed := ygc yCe_wsX1_needDeed _ [518, 519, 520, 521, 522, 523, 768, 769, 770, 771, 772, 773, 774, 775, 776, 777, 778, 779, 780] rfl yg_wsX1_noteDeed
set_option maxRecDepth 100000 in
theorem gX1_needDeed_X1_noteDeed : GoodIn wsX1_needDeed (wsV RX1 150 RX1 yX1_noteDeed wsX1_noteDeed) := goodIn_app (ygc yCe_wsX1_needDeed _ [515, 516, 517, 259] rfl rfl) ggX1_needDeed_X1_noteDeed
noncomputable def yC_wsX1_needNumber : List (List Cond) := [[.code yX1_needNumber cX1_needNumber 3 (some .int)], wsX1_needNumber_r1, wsX1_needNumber_r2, wsX10, wsX30]
set_option maxRecDepth 100000 in
theorem yCe_wsX1_needNumber : wsX1_needNumber = yC_wsX1_needNumber.flatten := rfl
set_option maxRecDepth 100000 in
theorem ggX1_needNumber_X1_readToken : GoodIn wsX1_needNumber wsX1_readToken := ygc yCe_wsX1_needNumber _ [260, 261, 262, 263, 264, 265, 266, 267, 268, 269, 259, 270, 271, 272, 273, 274, 275, 768, 769, 770, 771, 772, 773, 774, 775, 776, 777, 778, 779, 780, 1024, 1025] rfl yg_wsX1_readToken
set_option maxRecDepth 100000 in
theorem gX1_needNumber_X1_readToken : GoodIn wsX1_needNumber (wsV RX1 55 RX1 yX1_readToken wsX1_readToken) := goodIn_app (ygc yCe_wsX1_needNumber _ [256, 257, 258, 259] rfl rfl) ggX1_needNumber_X1_readToken
set_option maxRecDepth 100000 in
theorem ggX1_needNumber_X1_numberHere : GoodIn wsX1_needNumber wsX1_numberHere := ygc yCe_wsX1_needNumber _ [279, 267, 266, 262, 263, 265, 261, 271, 272, 273, 259, 274, 275, 512, 513, 514, 768, 769, 770, 771, 772, 773, 774, 775, 776, 777, 778, 779, 780, 1024, 1025] rfl yg_wsX1_numberHere
set_option maxRecDepth 100000 in
theorem gX1_needNumber_X1_numberHere : GoodIn wsX1_needNumber (wsV RX1 147 RX1 yX1_numberHere wsX1_numberHere) := goodIn_app (ygc yCe_wsX1_needNumber _ [276, 277, 278, 259] rfl rfl) ggX1_needNumber_X1_numberHere
set_option maxRecDepth 100000 in
theorem ggX1_numberHere_X1_complain : GoodIn wsX1_numberHere wsX1_complain := goodIn_r _ [11, 6, 12, 16, 17, 18, 19, 20, 21, 22, 23, 24, 25, 26, 27, 28] rfl yg_wsX1_complain
set_option maxRecDepth 100000 in
theorem gX1_numberHere_X1_complain : GoodIn wsX1_numberHere (wsV RX1 77 RX1 yX1_complain wsX1_complain) := goodIn_app (goodIn_r _ [7, 8, 9, 10] rfl rfl) ggX1_numberHere_X1_complain
set_option maxRecDepth 100000 in
theorem yg_wsX7_within : wsX7_within.all goodWord = true := by decide +kernel
set_option maxRecDepth 100000 in
theorem ggX1_numberHere_X7_within : GoodIn wsX1_numberHere wsX7_within := goodIn_r _ [15] rfl yg_wsX7_within
set_option maxRecDepth 100000 in
theorem gX1_numberHere_X7_within_n210 : GoodIn wsX1_numberHere (wsX7_within) := ggX1_numberHere_X7_within
noncomputable def yC_wsX1_needKind : List (List Cond) := [[.code yX1_needKind cX1_needKind 1 (some .int)], wsX1_needKind_r1, wsX1_needKind_r2, wsX1_needKind_r3, wsX1_needKind_r4, wsX10, wsX30]
set_option maxRecDepth 100000 in
theorem yCe_wsX1_needKind : wsX1_needKind = yC_wsX1_needKind.flatten := rfl
set_option maxRecDepth 100000 in
theorem ggX1_needKind_X1_readToken : GoodIn wsX1_needKind wsX1_readToken := ygc yCe_wsX1_needKind _ [261, 262, 263, 264, 265, 266, 256, 267, 268, 269, 260, 270, 271, 272, 273, 274, 275, 1280, 1281, 1282, 1283, 1284, 1285, 1286, 1287, 1288, 1289, 1290, 1291, 1292, 1536, 1537] rfl yg_wsX1_readToken
set_option maxRecDepth 100000 in
theorem gX1_needKind_X1_readToken : GoodIn wsX1_needKind (wsV RX1 55 RX1 yX1_readToken wsX1_readToken) := goodIn_app (ygc yCe_wsX1_needKind _ [257, 258, 259, 260] rfl rfl) ggX1_needKind_X1_readToken
set_option maxRecDepth 100000 in
theorem ggX1_needKind_X1_isName : GoodIn wsX1_needKind wsX1_isName := ygc yCe_wsX1_needKind _ [279, 267, 263, 256, 264, 266, 512, 513, 514, 515, 516, 517, 518, 519, 520, 521, 522, 523, 524, 525, 526, 527, 528, 529, 530, 531, 532, 533, 534, 535, 768, 769, 770, 771, 772, 773, 774, 775, 776, 777, 778, 779, 780, 781, 782, 783, 784, 785, 786, 787, 788, 789, 790, 791, 1024, 1280, 1281, 1282, 1283, 1284, 1285, 1286, 1287, 1288, 1289, 1290, 1291, 1292, 1536, 1537] rfl yg_wsX1_isName
set_option maxRecDepth 100000 in
theorem gX1_needKind_X1_isName : GoodIn wsX1_needKind (wsV RX1 83 RX1 yX1_isName wsX1_isName) := goodIn_app (ygc yCe_wsX1_needKind _ [276, 277, 278, 260] rfl rfl) ggX1_needKind_X1_isName
set_option maxRecDepth 100000 in
theorem ggX1_needKind_X1_complain : GoodIn wsX1_needKind wsX1_complain := ygc yCe_wsX1_needKind _ [274, 262, 275, 1280, 1281, 1282, 1283, 1284, 1285, 1286, 1287, 1288, 1289, 1290, 1291, 1292] rfl yg_wsX1_complain
set_option maxRecDepth 100000 in
theorem gX1_needKind_X1_complain : GoodIn wsX1_needKind (wsV RX1 77 RX1 yX1_complain wsX1_complain) := goodIn_app (ygc yCe_wsX1_needKind _ [271, 272, 273, 260] rfl rfl) ggX1_needKind_X1_complain
set_option maxRecDepth 100000 in
theorem yg_wsJ0_length_8abf5 : wsJ0_length_8abf5.all goodWord = true := by decide +kernel
noncomputable def yC_wsX1_isName : List (List Cond) := [[.code yX1_isName cX1_isName 3 (some .boolean)], wsX1_isName_r1, wsX1_isName_r2, wsX1_isName_r3, wsX10, wsX30]
set_option maxRecDepth 100000 in
theorem yCe_wsX1_isName : wsX1_isName = yC_wsX1_isName.flatten := rfl
set_option maxRecDepth 100000 in
theorem ggX1_isName_J0_length_8abf5 : GoodIn wsX1_isName wsJ0_length_8abf5 := ygc yCe_wsX1_isName _ [265, 266, 267, 268, 269, 264, 270, 271, 272] rfl yg_wsJ0_length_8abf5
set_option maxRecDepth 100000 in
theorem gX1_isName_J0_length_8abf5 : GoodIn wsX1_isName (wsV RX1 224 RJ0 yJ0_length_8abf5 wsJ0_length_8abf5) := goodIn_app (ygc yCe_wsX1_isName _ [261, 262, 263, 264] rfl rfl) ggX1_isName_J0_length_8abf5
set_option maxRecDepth 100000 in
theorem yg_wsJ0_charAt_5068e : wsJ0_charAt_5068e.all goodWord = true := by decide +kernel
set_option maxRecDepth 100000 in
theorem ggX1_isName_J0_charAt_5068e : GoodIn wsX1_isName wsJ0_charAt_5068e := ygc yCe_wsX1_isName _ [276, 266, 277, 278, 279, 264, 512, 271, 272, 513, 514, 515, 516, 517, 518, 519, 520, 521, 522, 523, 524, 525, 526, 527, 528, 529, 530, 531, 532, 533, 534, 535, 768, 769, 770, 771, 772, 773] rfl yg_wsJ0_charAt_5068e
set_option maxRecDepth 100000 in
theorem gX1_isName_J0_charAt_5068e : GoodIn wsX1_isName (wsV RX1 229 RJ0 yJ0_charAt_5068e wsJ0_charAt_5068e) := goodIn_app (ygc yCe_wsX1_isName _ [273, 274, 275, 264] rfl rfl) ggX1_isName_J0_charAt_5068e
set_option maxRecDepth 100000 in
theorem yg_wsX1_sortOf : wsX1_sortOf.all goodWord = true := by decide +kernel
set_option maxRecDepth 100000 in
theorem ggX1_readToken_X1_sortOf : GoodIn wsX1_readToken wsX1_sortOf := goodIn_r _ [11] rfl yg_wsX1_sortOf
set_option maxRecDepth 100000 in
theorem gX1_readToken_X1_sortOf : GoodIn wsX1_readToken (va_wsS RX1 233 yX1_sortOf wsX1_sortOf) := goodIn_app (goodIn_r _ [8, 9, 10] rfl rfl) ggX1_readToken_X1_sortOf
set_option maxRecDepth 100000 in
theorem ggX1_readToken_X1_complain : GoodIn wsX1_readToken wsX1_complain := goodIn_r _ [15, 1, 16, 17, 18, 19, 20, 21, 22, 23, 24, 25, 26, 27, 28, 29] rfl yg_wsX1_complain
set_option maxRecDepth 100000 in
theorem gX1_readToken_X1_complain : GoodIn wsX1_readToken (wsV RX1 77 RX1 yX1_complain wsX1_complain) := goodIn_app (goodIn_r _ [12, 13, 14, 10] rfl rfl) ggX1_readToken_X1_complain
set_option maxRecDepth 100000 in
theorem yg_wsX2_isNothing : wsX2_isNothing.all goodWord = true := by decide +kernel
set_option maxRecDepth 100000 in
theorem ggX2_faultOfLane_X2_isNothing : GoodIn wsX2_faultOfLane wsX2_isNothing := goodIn_r _ [6, 1, 7, 8, 9] rfl yg_wsX2_isNothing
set_option maxRecDepth 100000 in
theorem gX2_faultOfLane_X2_isNothing : GoodIn wsX2_faultOfLane (wsV RX2 22 RX2 yX2_isNothing wsX2_isNothing) := goodIn_app (goodIn_r _ [2, 3, 4, 5] rfl rfl) ggX2_faultOfLane_X2_isNothing
set_option maxRecDepth 100000 in
theorem ggX2_faultOfCells_X2_isNothing : GoodIn wsX2_faultOfCells wsX2_isNothing := goodIn_r _ [6, 7, 11, 12, 13] rfl yg_wsX2_isNothing
set_option maxRecDepth 100000 in
theorem gX2_faultOfCells_X2_isNothing : GoodIn wsX2_faultOfCells (wsV RX2 22 RX2 yX2_isNothing wsX2_isNothing) := goodIn_app (goodIn_r _ [2, 3, 4, 5] rfl rfl) ggX2_faultOfCells_X2_isNothing
set_option maxRecDepth 100000 in
theorem ggX2_faultOfCells_X7_within : GoodIn wsX2_faultOfCells wsX7_within := goodIn_r _ [10] rfl yg_wsX7_within
set_option maxRecDepth 100000 in
theorem gX2_faultOfCells_X7_within_n26 : GoodIn wsX2_faultOfCells (wsX7_within) := ggX2_faultOfCells_X7_within
set_option maxRecDepth 100000 in
theorem yg_wsX5_init : wsX5_init.all goodWord = true := by decide +kernel
noncomputable def yC_wsX4_init : List (List Cond) := [[.code yX4_init cX4_init 1 none], wsX4_init_r1, wsX4_init_r2, wsX40, wsX50, wsX60]
set_option maxRecDepth 100000 in
theorem yCe_wsX4_init : wsX4_init = yC_wsX4_init.flatten := rfl
set_option maxRecDepth 100000 in
theorem ggX4_init_X5_init : GoodIn wsX4_init wsX5_init := ygc yCe_wsX4_init _ [278, 279, 257, 258, 260, 512, 513, 514, 515, 1024, 1025, 1026, 1027, 1028] rfl yg_wsX5_init
set_option maxRecDepth 100000 in
theorem gX4_init_X5_init_n39 : GoodIn wsX4_init (wsX5_init) := ggX4_init_X5_init
set_option maxRecDepth 100000 in
theorem yg_wsX6_init : wsX6_init.all goodWord = true := by decide +kernel
set_option maxRecDepth 100000 in
theorem ggX4_init_X6_init : GoodIn wsX4_init wsX6_init := ygc yCe_wsX4_init _ [517, 518, 257, 258, 260, 519, 520, 1280, 1281, 1282] rfl yg_wsX6_init
set_option maxRecDepth 100000 in
theorem gX4_init_X6_init_n49 : GoodIn wsX4_init (wsX6_init) := ggX4_init_X6_init
set_option maxRecDepth 100000 in
theorem ggX4_isHouse_X7_within : GoodIn wsX4_isHouse wsX7_within := goodIn_r _ [4] rfl yg_wsX7_within
set_option maxRecDepth 100000 in
theorem gX4_isHouse_X7_within_n54 : GoodIn wsX4_isHouse (wsX7_within) := ggX4_isHouse_X7_within
set_option maxRecDepth 100000 in
theorem ggX4_isDeed_X7_within : GoodIn wsX4_isDeed wsX7_within := goodIn_r _ [4] rfl yg_wsX7_within
set_option maxRecDepth 100000 in
theorem gX4_isDeed_X7_within_n54 : GoodIn wsX4_isDeed (wsX7_within) := ggX4_isDeed_X7_within
noncomputable def yC_wsX4_makeNew : List (List Cond) := [[.code yX4_makeNew cX4_makeNew 2 none], [.fieldLink RX4 9 "VowTerrace$Terrace" "houses" "I", .fieldLink RX4 61 "VowTerrace$Terrace" "ring" "Z", .fieldLink RX4 58 "VowTerrace$Terrace" "deeds" "I", .fieldLink RX4 65 "VowTerrace$Terrace" "lawyers" "I", .fieldLink RX4 19 "VowTerrace$Terrace" "purse" "[I", .fieldLink RX4 22 "VowTerrace$Terrace" "skills" "[I", .fieldLink RX4 34 "VowTerrace$Terrace" "done" "[I", .fieldLink RX4 40 "VowTerrace$Terrace" "vowRow" "LVowTerrace$VowRow;", .fieldLink RX4 72 "VowTerrace$VowRow" "size" "I", .fieldLink RX4 50 "VowTerrace$Terrace" "wantRow" "LVowTerrace$WantRow;", .fieldLink RX4 75 "VowTerrace$WantRow" "size" "I", .fieldLink RX4 76 "VowTerrace$Terrace" "day" "I", .fieldLink RX4 79 "VowTerrace$Terrace" "lost" "I", .fieldLink RX4 82 "VowTerrace$Terrace" "struck" "I", .fieldLink RX4 85 "VowTerrace$Terrace" "failed" "I", .methodLink RX4 68 yX4_setHabit, .instanceMethod yX4_setHabit, .selects RX4 yX4_setHabit yX4_setHabit, .initialized RX4, .code yX4_setHabit cX4_setHabit 5 none, .fieldLink RX4 25 "VowTerrace$Terrace" "habitKind" "[I", .fieldLink RX4 28 "VowTerrace$Terrace" "habitDeed" "[I", .fieldLink RX4 31 "VowTerrace$Terrace" "habitOdds" "[I"], wsX40, wsX50, wsX60]
set_option maxRecDepth 100000 in
theorem yCe_wsX4_makeNew : wsX4_makeNew = yC_wsX4_makeNew.flatten := rfl
set_option maxRecDepth 100000 in
theorem ggX4_makeNew_X4_setHabit : GoodIn wsX4_makeNew wsX4_setHabit := ygc yCe_wsX4_makeNew _ [275, 276, 277, 278, 512, 513, 514, 515, 516, 517, 518, 519, 520, 521, 522, 523, 524, 525, 526, 527, 528, 529] rfl yg_wsX4_setHabit
set_option maxRecDepth 100000 in
theorem gX4_makeNew_X4_setHabit : GoodIn wsX4_makeNew (wsV RX4 68 RX4 yX4_setHabit wsX4_setHabit) := goodIn_app (ygc yCe_wsX4_makeNew _ [271, 272, 273, 274] rfl rfl) ggX4_makeNew_X4_setHabit
set_option maxRecDepth 100000 in
theorem yg_wsX5_copyFrom : wsX5_copyFrom.all goodWord = true := by decide +kernel
noncomputable def yC_wsX4_copyFrom : List (List Cond) := [[.code yX4_copyFrom cX4_copyFrom 2 none], wsX4_copyFrom_r1, wsX4_copyFrom_r2, wsX40, wsX50, wsX60]
set_option maxRecDepth 100000 in
theorem yCe_wsX4_copyFrom : wsX4_copyFrom = yC_wsX4_copyFrom.flatten := rfl
set_option maxRecDepth 100000 in
theorem ggX4_copyFrom_X5_copyFrom : GoodIn wsX4_copyFrom wsX5_copyFrom := ygc yCe_wsX4_copyFrom _ [513, 514, 515, 516, 262, 263, 264, 517, 518, 519, 1024, 1025, 1026, 1027, 1028] rfl yg_wsX5_copyFrom
set_option maxRecDepth 100000 in
theorem gX4_copyFrom_X5_copyFrom : GoodIn wsX4_copyFrom (wsV RX4 94 RX5 yX5_copyFrom wsX5_copyFrom) := goodIn_app (ygc yCe_wsX4_copyFrom _ [277, 278, 279, 512] rfl rfl) ggX4_copyFrom_X5_copyFrom
set_option maxRecDepth 100000 in
theorem yg_wsX6_copyFrom : wsX6_copyFrom.all goodWord = true := by decide +kernel
set_option maxRecDepth 100000 in
theorem ggX4_copyFrom_X6_copyFrom : GoodIn wsX4_copyFrom wsX6_copyFrom := ygc yCe_wsX4_copyFrom _ [524, 525, 526, 527, 262, 263, 264, 528, 1280, 1281, 1282] rfl yg_wsX6_copyFrom
set_option maxRecDepth 100000 in
theorem gX4_copyFrom_X6_copyFrom : GoodIn wsX4_copyFrom (wsV RX4 98 RX6 yX6_copyFrom wsX6_copyFrom) := goodIn_app (ygc yCe_wsX4_copyFrom _ [520, 521, 522, 523] rfl rfl) ggX4_copyFrom_X6_copyFrom
set_option maxRecDepth 100000 in
theorem yg_wsX4_passDay : wsX4_passDay.all goodWord = true := by decide +kernel
noncomputable def yC_wsX4_passDays : List (List Cond) := [[.code yX4_passDays cX4_passDays 4 (some .int)], wsX4_passDays_r1, wsX4_passDays_r2, wsX4_passDays_r3, wsX40, wsX50]
set_option maxRecDepth 100000 in
theorem yCe_wsX4_passDays : wsX4_passDays = yC_wsX4_passDays.flatten := rfl
set_option maxRecDepth 100000 in
theorem ggX4_passDays_X4_passDay : GoodIn wsX4_passDays wsX4_passDay := ygc yCe_wsX4_passDays _ [260, 261, 262, 263, 264, 265, 266, 267, 268, 259, 269, 270, 271, 272, 273, 274, 275, 276, 277, 278, 279, 512, 513, 514, 515, 516, 517, 518, 519, 520, 521, 522, 523, 524, 525, 526, 527, 528, 529, 530, 531, 532, 533, 534, 535, 768, 769, 770, 771, 772, 773, 774, 775, 776, 777, 778, 779, 780, 781, 782, 1024, 1025, 1026, 1027, 1028, 1029, 1030, 1031, 1032, 1033, 1034, 1035, 1036, 1037, 1038, 1039, 1040, 1041, 1280, 1281, 1282, 1283, 1284] rfl yg_wsX4_passDay
set_option maxRecDepth 100000 in
theorem gX4_passDays_X4_passDay : GoodIn wsX4_passDays (wsV RX4 101 RX4 yX4_passDay wsX4_passDay) := goodIn_app (ygc yCe_wsX4_passDays _ [256, 257, 258, 259] rfl rfl) ggX4_passDays_X4_passDay
set_option maxRecDepth 100000 in
theorem yg_wsX4_fallsOf : wsX4_fallsOf.all goodWord = true := by decide +kernel
noncomputable def yC_wsX4_passDay : List (List Cond) := [[.code yX4_passDay cX4_passDay 6 (some .int)], wsX4_passDay_r1, wsX4_passDay_r2, wsX4_passDay_r3, wsX40, wsX50]
set_option maxRecDepth 100000 in
theorem yCe_wsX4_passDay : wsX4_passDay = yC_wsX4_passDay.flatten := rfl
set_option maxRecDepth 100000 in
theorem ggX4_passDay_X4_fallsOf : GoodIn wsX4_passDay wsX4_fallsOf := ygc yCe_wsX4_passDay _ [265] rfl yg_wsX4_fallsOf
set_option maxRecDepth 100000 in
theorem gX4_passDay_X4_fallsOf : GoodIn wsX4_passDay (va_wsS RX4 108 yX4_fallsOf wsX4_fallsOf) := goodIn_app (ygc yCe_wsX4_passDay _ [262, 263, 264] rfl rfl) ggX4_passDay_X4_fallsOf
set_option maxRecDepth 100000 in
theorem yg_wsX4_stepOf : wsX4_stepOf.all goodWord = true := by decide +kernel
set_option maxRecDepth 100000 in
theorem ggX4_passDay_X4_stepOf : GoodIn wsX4_passDay wsX4_stepOf := ygc yCe_wsX4_passDay _ [268] rfl yg_wsX4_stepOf
set_option maxRecDepth 100000 in
theorem gX4_passDay_X4_stepOf : GoodIn wsX4_passDay (va_wsS RX4 115 yX4_stepOf wsX4_stepOf) := goodIn_app (ygc yCe_wsX4_passDay _ [266, 267, 264] rfl rfl) ggX4_passDay_X4_stepOf
set_option maxRecDepth 100000 in
theorem yg_wsX4_whereFalls : wsX4_whereFalls.all goodWord = true := by decide +kernel
set_option maxRecDepth 100000 in
theorem ggX4_passDay_X4_whereFalls : GoodIn wsX4_passDay wsX4_whereFalls := ygc yCe_wsX4_passDay _ [272, 273, 274, 1024, 1025, 1026, 1027, 1028, 1029, 1030, 1031, 1032, 1033, 1034, 1035, 1036, 1037, 1038, 1039, 1040, 1041] rfl yg_wsX4_whereFalls
set_option maxRecDepth 100000 in
theorem gX4_passDay_X4_whereFalls : GoodIn wsX4_passDay (wsV RX4 119 RX4 yX4_whereFalls wsX4_whereFalls) := goodIn_app (ygc yCe_wsX4_passDay _ [269, 270, 271, 264] rfl rfl) ggX4_passDay_X4_whereFalls
set_option maxRecDepth 100000 in
theorem yg_wsX4_letFall : wsX4_letFall.all goodWord = true := by decide +kernel
set_option maxRecDepth 100000 in
theorem ggX4_passDay_X4_letFall : GoodIn wsX4_passDay wsX4_letFall := ygc yCe_wsX4_passDay _ [278, 279, 512, 513, 258, 514, 256, 259, 515, 516, 517, 518, 519, 520, 521, 522, 523, 524, 525, 526, 527, 528, 529, 530, 531, 264, 532, 533, 534, 535, 768, 769, 770, 771, 772, 773, 774, 775, 776, 777, 778, 1024, 1025, 1026, 1027, 1028, 1029, 1030, 1031, 1032, 1033, 1034, 1035, 1036, 1037, 1038, 1039, 1040, 1041, 1280, 1281, 1282, 1283, 1284] rfl yg_wsX4_letFall
set_option maxRecDepth 100000 in
theorem gX4_passDay_X4_letFall : GoodIn wsX4_passDay (wsV RX4 122 RX4 yX4_letFall wsX4_letFall) := goodIn_app (ygc yCe_wsX4_passDay _ [275, 276, 277, 264] rfl rfl) ggX4_passDay_X4_letFall
noncomputable def yC_wsX4_letFall : List (List Cond) := [[.code yX4_letFall cX4_letFall 5 (some .boolean)], wsX4_letFall_r1, wsX4_letFall_r2, wsX40, wsX50]
set_option maxRecDepth 100000 in
theorem yCe_wsX4_letFall : wsX4_letFall = yC_wsX4_letFall.flatten := rfl
set_option maxRecDepth 100000 in
theorem ggX4_letFall_X7_bit : GoodIn wsX4_letFall wsX7_bit := ygc yCe_wsX4_letFall _ [266] rfl yg_wsX7_bit
set_option maxRecDepth 100000 in
theorem gX4_letFall_X7_bit_n126 : GoodIn wsX4_letFall (wsX7_bit) := ggX4_letFall_X7_bit
set_option maxRecDepth 100000 in
theorem ggX4_letFall_X5_append : GoodIn wsX4_letFall wsX5_append := ygc yCe_wsX4_letFall _ [271, 272, 273, 274, 275, 276, 1024, 1025, 1026, 1027, 1028] rfl yg_wsX5_append
set_option maxRecDepth 100000 in
theorem gX4_letFall_X5_append : GoodIn wsX4_letFall (wsV RX4 135 RX5 yX5_append wsX5_append) := goodIn_app (ygc yCe_wsX4_letFall _ [267, 268, 269, 270] rfl rfl) ggX4_letFall_X5_append
set_option maxRecDepth 100000 in
theorem yg_wsX4_comesTrue : wsX4_comesTrue.all goodWord = true := by decide +kernel
set_option maxRecDepth 100000 in
theorem ggX4_letFall_X4_comesTrue : GoodIn wsX4_letFall wsX4_comesTrue := ygc yCe_wsX4_letFall _ [513, 514, 515, 516, 517, 518, 519, 520, 521, 522, 523, 524, 525, 526, 265, 527, 264, 266, 768, 769, 770, 771, 772, 773, 774, 775, 776, 777, 778, 779, 780, 781, 782, 783, 784, 785] rfl yg_wsX4_comesTrue
set_option maxRecDepth 100000 in
theorem gX4_letFall_X4_comesTrue : GoodIn wsX4_letFall (wsV RX4 139 RX4 yX4_comesTrue wsX4_comesTrue) := goodIn_app (ygc yCe_wsX4_letFall _ [277, 278, 279, 512] rfl rfl) ggX4_letFall_X4_comesTrue
set_option maxRecDepth 100000 in
theorem yg_wsX7_doneAt : wsX7_doneAt.all goodWord = true := by decide +kernel
set_option maxRecDepth 100000 in
theorem ggX4_comesTrue_X7_doneAt : GoodIn wsX4_comesTrue wsX7_doneAt := goodIn_r _ [15] rfl yg_wsX7_doneAt
set_option maxRecDepth 100000 in
theorem gX4_comesTrue_X7_doneAt_n142 : GoodIn wsX4_comesTrue (wsX7_doneAt) := ggX4_comesTrue_X7_doneAt
set_option maxRecDepth 100000 in
theorem ggX4_comesTrue_X7_bit : GoodIn wsX4_comesTrue wsX7_bit := goodIn_r _ [17] rfl yg_wsX7_bit
set_option maxRecDepth 100000 in
theorem gX4_comesTrue_X7_bit_n126 : GoodIn wsX4_comesTrue (wsX7_bit) := ggX4_comesTrue_X7_bit
set_option maxRecDepth 100000 in
theorem ggX4_fallSet_X4_fallsOf : GoodIn wsX4_fallSet wsX4_fallsOf := goodIn_r _ [4] rfl yg_wsX4_fallsOf
set_option maxRecDepth 100000 in
theorem gX4_fallSet_X4_fallsOf : GoodIn wsX4_fallSet (va_wsS RX4 108 yX4_fallsOf wsX4_fallsOf) := goodIn_app (goodIn_r _ [1, 2, 3] rfl rfl) ggX4_fallSet_X4_fallsOf
set_option maxRecDepth 100000 in
theorem ggX4_fallSet_X4_stepOf : GoodIn wsX4_fallSet wsX4_stepOf := goodIn_r _ [7] rfl yg_wsX4_stepOf
set_option maxRecDepth 100000 in
theorem gX4_fallSet_X4_stepOf : GoodIn wsX4_fallSet (va_wsS RX4 115 yX4_stepOf wsX4_stepOf) := goodIn_app (goodIn_r _ [5, 6, 3] rfl rfl) ggX4_fallSet_X4_stepOf
set_option maxRecDepth 100000 in
theorem yg_wsX4_shiftSet : wsX4_shiftSet.all goodWord = true := by decide +kernel
set_option maxRecDepth 100000 in
theorem ggX4_fallSet_X4_shiftSet : GoodIn wsX4_fallSet wsX4_shiftSet := goodIn_r _ [11, 12, 13, 14, 15, 16, 17, 18, 19, 20, 21, 22, 23, 24, 25, 26, 27, 28, 29, 30, 31] rfl yg_wsX4_shiftSet
set_option maxRecDepth 100000 in
theorem gX4_fallSet_X4_shiftSet : GoodIn wsX4_fallSet (wsV RX4 153 RX4 yX4_shiftSet wsX4_shiftSet) := goodIn_app (goodIn_r _ [8, 9, 10, 3] rfl rfl) ggX4_fallSet_X4_shiftSet
set_option maxRecDepth 100000 in
theorem yg_wsX4_fallSet : wsX4_fallSet.all goodWord = true := by decide +kernel
noncomputable def yC_wsX4_broughtBy : List (List Cond) := [[.code yX4_broughtBy cX4_broughtBy 5 (some .int)], [.fieldLink RX4 65 "VowTerrace$Terrace" "lawyers" "I", .fieldLink RX4 9 "VowTerrace$Terrace" "houses" "I", .fieldLink RX4 22 "VowTerrace$Terrace" "skills" "[I", .methodLink RX4 156 yX4_fallSet, .instanceMethod yX4_fallSet, .selects RX4 yX4_fallSet yX4_fallSet, .initialized RX4, .code yX4_fallSet cX4_fallSet 6 (some .int), .methodLink RX4 108 yX4_fallsOf, .static yX4_fallsOf, .code yX4_fallsOf cX4_fallsOf 1 (some .int), .methodLink RX4 115 yX4_stepOf, .static yX4_stepOf, .code yX4_stepOf cX4_stepOf 2 (some .int), .methodLink RX4 153 yX4_shiftSet, .instanceMethod yX4_shiftSet, .selects RX4 yX4_shiftSet yX4_shiftSet, .code yX4_shiftSet cX4_shiftSet 5 (some .int), .fieldLink RX4 61 "VowTerrace$Terrace" "ring" "Z", .static yX7_bit, .initialized RX7, .code yX7_bit cX7_bit 2 (some .int), .static yX7_withBit, .code yX7_withBit cX7_withBit 3 (some .int)], wsX40]
set_option maxRecDepth 100000 in
theorem yCe_wsX4_broughtBy : wsX4_broughtBy = yC_wsX4_broughtBy.flatten := rfl
set_option maxRecDepth 100000 in
theorem ggX4_broughtBy_X4_fallSet : GoodIn wsX4_broughtBy wsX4_fallSet := ygc yCe_wsX4_broughtBy _ [263, 264, 265, 262, 266, 267, 268, 269, 270, 271, 272, 273, 257, 274, 512, 513, 514, 515, 516, 517, 518, 519, 520, 521, 522, 523, 524, 525, 526, 527, 528, 529] rfl yg_wsX4_fallSet
set_option maxRecDepth 100000 in
theorem gX4_broughtBy_X4_fallSet : GoodIn wsX4_broughtBy (wsV RX4 156 RX4 yX4_fallSet wsX4_fallSet) := goodIn_app (ygc yCe_wsX4_broughtBy _ [259, 260, 261, 262] rfl rfl) ggX4_broughtBy_X4_fallSet
set_option maxRecDepth 100000 in
theorem ggX4_broughtBy_X7_bit : GoodIn wsX4_broughtBy wsX7_bit := ygc yCe_wsX4_broughtBy _ [277] rfl yg_wsX7_bit
set_option maxRecDepth 100000 in
theorem gX4_broughtBy_X7_bit_n126 : GoodIn wsX4_broughtBy (wsX7_bit) := ggX4_broughtBy_X7_bit
set_option maxRecDepth 100000 in
theorem ggX4_broughtBy_X7_withBit : GoodIn wsX4_broughtBy wsX7_withBit := ygc yCe_wsX4_broughtBy _ [279] rfl yg_wsX7_withBit
set_option maxRecDepth 100000 in
theorem gX4_broughtBy_X7_withBit_n160 : GoodIn wsX4_broughtBy (wsX7_withBit) := ggX4_broughtBy_X7_withBit
noncomputable def yC_wsX4_isEndless : List (List Cond) := [[.code yX4_isEndless cX4_isEndless 5 (some .boolean)], [.fieldLink RX4 40 "VowTerrace$Terrace" "vowRow" "LVowTerrace$VowRow;", .fieldLink RX4 129 "VowTerrace$VowRow" "deep" "[I", .fieldLink RX4 112 "VowTerrace$VowRow" "house" "[I", .fieldLink RX4 105 "VowTerrace$VowRow" "kind" "[I", .methodLink RX4 156 yX4_fallSet, .instanceMethod yX4_fallSet, .selects RX4 yX4_fallSet yX4_fallSet, .initialized RX4, .code yX4_fallSet cX4_fallSet 6 (some .int), .methodLink RX4 108 yX4_fallsOf, .static yX4_fallsOf, .code yX4_fallsOf cX4_fallsOf 1 (some .int), .methodLink RX4 115 yX4_stepOf, .static yX4_stepOf, .code yX4_stepOf cX4_stepOf 2 (some .int), .methodLink RX4 153 yX4_shiftSet, .instanceMethod yX4_shiftSet, .selects RX4 yX4_shiftSet yX4_shiftSet, .code yX4_shiftSet cX4_shiftSet 5 (some .int), .fieldLink RX4 9 "VowTerrace$Terrace" "houses" "I", .fieldLink RX4 61 "VowTerrace$Terrace" "ring" "Z"], wsX40, wsX50]
set_option maxRecDepth 100000 in
theorem yCe_wsX4_isEndless : wsX4_isEndless = yC_wsX4_isEndless.flatten := rfl
set_option maxRecDepth 100000 in
theorem ggX4_isEndless_X4_fallSet : GoodIn wsX4_isEndless wsX4_fallSet := ygc yCe_wsX4_isEndless _ [264, 265, 266, 263, 267, 268, 269, 270, 271, 272, 273, 274, 275, 276, 512, 513, 514, 515, 516, 517, 518, 519, 520, 521, 522, 523, 524, 525, 526, 527, 528, 529] rfl yg_wsX4_fallSet
set_option maxRecDepth 100000 in
theorem gX4_isEndless_X4_fallSet : GoodIn wsX4_isEndless (wsV RX4 156 RX4 yX4_fallSet wsX4_fallSet) := goodIn_app (ygc yCe_wsX4_isEndless _ [260, 261, 262, 263] rfl rfl) ggX4_isEndless_X4_fallSet
set_option maxRecDepth 100000 in
theorem yg_wsX4_isEndless : wsX4_isEndless.all goodWord = true := by decide +kernel
noncomputable def yC_wsX4_hasEndless : List (List Cond) := [[.code yX4_hasEndless cX4_hasEndless 3 (some .boolean)], wsX4_hasEndless_r1, wsX4_hasEndless_r2, wsX40, wsX50]
set_option maxRecDepth 100000 in
theorem yCe_wsX4_hasEndless : wsX4_hasEndless = yC_wsX4_hasEndless.flatten := rfl
set_option maxRecDepth 100000 in
theorem ggX4_hasEndless_X4_isEndless : GoodIn wsX4_hasEndless wsX4_isEndless := ygc yCe_wsX4_hasEndless _ [262, 256, 263, 264, 265, 266, 267, 268, 261, 269, 270, 271, 272, 273, 274, 275, 276, 277, 278, 279, 512, 513, 768, 769, 770, 771, 772, 773, 774, 775, 776, 777, 778, 779, 780, 781, 782, 783, 784, 785, 1024, 1025, 1026, 1027, 1028] rfl yg_wsX4_isEndless
set_option maxRecDepth 100000 in
theorem gX4_hasEndless_X4_isEndless : GoodIn wsX4_hasEndless (wsV RX4 164 RX4 yX4_isEndless wsX4_isEndless) := goodIn_app (ygc yCe_wsX4_hasEndless _ [258, 259, 260, 261] rfl rfl) ggX4_hasEndless_X4_isEndless
set_option maxRecDepth 100000 in
theorem ggX4_habitFalls_X7_bit : GoodIn wsX4_habitFalls wsX7_bit := goodIn_r _ [6] rfl yg_wsX7_bit
set_option maxRecDepth 100000 in
theorem gX4_habitFalls_X7_bit_n126 : GoodIn wsX4_habitFalls (wsX7_bit) := ggX4_habitFalls_X7_bit
set_option maxRecDepth 100000 in
theorem ggX4_habitFalls_X4_fallsOf : GoodIn wsX4_habitFalls wsX4_fallsOf := goodIn_r _ [10] rfl yg_wsX4_fallsOf
set_option maxRecDepth 100000 in
theorem gX4_habitFalls_X4_fallsOf : GoodIn wsX4_habitFalls (va_wsS RX4 108 yX4_fallsOf wsX4_fallsOf) := goodIn_app (goodIn_r _ [7, 8, 9] rfl rfl) ggX4_habitFalls_X4_fallsOf
set_option maxRecDepth 100000 in
theorem ggX4_habitFalls_X4_stepOf : GoodIn wsX4_habitFalls wsX4_stepOf := goodIn_r _ [13] rfl yg_wsX4_stepOf
set_option maxRecDepth 100000 in
theorem gX4_habitFalls_X4_stepOf : GoodIn wsX4_habitFalls (va_wsS RX4 115 yX4_stepOf wsX4_stepOf) := goodIn_app (goodIn_r _ [11, 12, 9] rfl rfl) ggX4_habitFalls_X4_stepOf
set_option maxRecDepth 100000 in
theorem ggX4_habitFalls_X4_whereFalls : GoodIn wsX4_habitFalls wsX4_whereFalls := goodIn_r _ [17, 18, 19, 20, 21, 22, 23, 24, 25, 26, 27, 28, 29, 30, 31, 32, 33, 34, 35, 36, 37] rfl yg_wsX4_whereFalls
set_option maxRecDepth 100000 in
theorem gX4_habitFalls_X4_whereFalls : GoodIn wsX4_habitFalls (wsV RX4 119 RX4 yX4_whereFalls wsX4_whereFalls) := goodIn_app (goodIn_r _ [14, 15, 16, 9] rfl rfl) ggX4_habitFalls_X4_whereFalls
set_option maxRecDepth 100000 in
theorem yg_wsX4_habitFalls : wsX4_habitFalls.all goodWord = true := by decide +kernel
noncomputable def yC_wsX4_habitCost : List (List Cond) := [[.code yX4_habitCost cX4_habitCost 3 (some .int)], wsX4_habitCost_r1, wsX4_habitCost_r2, wsX40]
set_option maxRecDepth 100000 in
theorem yCe_wsX4_habitCost : wsX4_habitCost = yC_wsX4_habitCost.flatten := rfl
set_option maxRecDepth 100000 in
theorem ggX4_habitCost_X4_habitFalls : GoodIn wsX4_habitCost wsX4_habitFalls := ygc yCe_wsX4_habitCost _ [262, 263, 264, 265, 266, 267, 268, 269, 270, 261, 271, 272, 273, 274, 275, 276, 277, 278, 279, 512, 768, 769, 770, 771, 772, 773, 774, 775, 776, 777, 778, 779, 780, 781, 782, 783, 784, 785] rfl yg_wsX4_habitFalls
set_option maxRecDepth 100000 in
theorem gX4_habitCost_X4_habitFalls : GoodIn wsX4_habitCost (wsV RX4 167 RX4 yX4_habitFalls wsX4_habitFalls) := goodIn_app (ygc yCe_wsX4_habitCost _ [258, 259, 260, 261] rfl rfl) ggX4_habitCost_X4_habitFalls
set_option maxRecDepth 100000 in
theorem ggX4_habitWeight_X7_bit : GoodIn wsX4_habitWeight wsX7_bit := goodIn_r _ [5] rfl yg_wsX7_bit
set_option maxRecDepth 100000 in
theorem gX4_habitWeight_X7_bit_n126 : GoodIn wsX4_habitWeight (wsX7_bit) := ggX4_habitWeight_X7_bit
noncomputable def yC_wsX4_canPayHabits : List (List Cond) := [[.code yX4_canPayHabits cX4_canPayHabits 5 (some .boolean)], wsX4_canPayHabits_r1, wsX4_canPayHabits_r2, wsX40]
set_option maxRecDepth 100000 in
theorem yCe_wsX4_canPayHabits : wsX4_canPayHabits = yC_wsX4_canPayHabits.flatten := rfl
set_option maxRecDepth 100000 in
theorem ggX4_canPayHabits_X7_bit : GoodIn wsX4_canPayHabits wsX7_bit := ygc yCe_wsX4_canPayHabits _ [262] rfl yg_wsX7_bit
set_option maxRecDepth 100000 in
theorem gX4_canPayHabits_X7_bit_n126 : GoodIn wsX4_canPayHabits (wsX7_bit) := ggX4_canPayHabits_X7_bit
set_option maxRecDepth 100000 in
theorem ggX4_canPayHabits_X4_habitFalls : GoodIn wsX4_canPayHabits wsX4_habitFalls := ygc yCe_wsX4_canPayHabits _ [267, 268, 269, 270, 260, 261, 262, 271, 272, 266, 273, 274, 275, 276, 277, 278, 279, 512, 513, 256, 768, 769, 770, 771, 772, 773, 774, 775, 776, 777, 778, 779, 780, 781, 782, 783, 784, 785] rfl yg_wsX4_habitFalls
set_option maxRecDepth 100000 in
theorem gX4_canPayHabits_X4_habitFalls : GoodIn wsX4_canPayHabits (wsV RX4 167 RX4 yX4_habitFalls wsX4_habitFalls) := goodIn_app (ygc yCe_wsX4_canPayHabits _ [263, 264, 265, 266] rfl rfl) ggX4_canPayHabits_X4_habitFalls
set_option maxRecDepth 100000 in
theorem yg_wsX4_habitCost : wsX4_habitCost.all goodWord = true := by decide +kernel
set_option maxRecDepth 100000 in
theorem ggX4_canPayHabits_X4_habitCost : GoodIn wsX4_canPayHabits wsX4_habitCost := ygc yCe_wsX4_canPayHabits _ [517, 518, 258, 263, 264, 265, 266, 267, 268, 269, 270, 260, 261, 262, 271, 272, 273, 274, 275, 276, 277, 278, 279, 512, 513, 256, 768, 769, 770, 771, 772, 773, 774, 775, 776, 777, 778, 779, 780, 781, 782, 783, 784, 785] rfl yg_wsX4_habitCost
set_option maxRecDepth 100000 in
theorem gX4_canPayHabits_X4_habitCost : GoodIn wsX4_canPayHabits (wsV RX4 170 RX4 yX4_habitCost wsX4_habitCost) := goodIn_app (ygc yCe_wsX4_canPayHabits _ [514, 515, 516, 266] rfl rfl) ggX4_canPayHabits_X4_habitCost
set_option maxRecDepth 100000 in
theorem yg_wsX4_isHouse : wsX4_isHouse.all goodWord = true := by decide +kernel
noncomputable def yC_wsX4_vowByHabit : List (List Cond) := [[.code yX4_vowByHabit cX4_vowByHabit 2 none], [.fieldLink RX4 31 "VowTerrace$Terrace" "habitOdds" "[I", .fieldLink RX4 40 "VowTerrace$Terrace" "vowRow" "LVowTerrace$VowRow;", .fieldLink RX4 25 "VowTerrace$Terrace" "habitKind" "[I", .fieldLink RX4 28 "VowTerrace$Terrace" "habitDeed" "[I", .methodLink RX4 173 yX4_isHouse, .instanceMethod yX4_isHouse, .selects RX4 yX4_isHouse yX4_isHouse, .initialized RX4, .code yX4_isHouse cX4_isHouse 2 (some .boolean), .fieldLink RX4 9 "VowTerrace$Terrace" "houses" "I", .static yX7_within, .initialized RX7, .code yX7_within cX7_within 3 (some .boolean), .methodLink RX4 135 yX5_append, .instanceMethod yX5_append, .selects RX5 yX5_append yX5_append, .initialized RX5, .code yX5_append cX5_append 5 (some .boolean), .fieldLink RX5 24 "VowTerrace$VowRow" "size" "I", .fieldLink RX5 9 "VowTerrace$VowRow" "house" "[I", .fieldLink RX5 15 "VowTerrace$VowRow" "kind" "[I", .fieldLink RX5 18 "VowTerrace$VowRow" "deep" "[I", .fieldLink RX5 21 "VowTerrace$VowRow" "deed" "[I"], wsX40, wsX50]
set_option maxRecDepth 100000 in
theorem yCe_wsX4_vowByHabit : wsX4_vowByHabit = yC_wsX4_vowByHabit.flatten := rfl
set_option maxRecDepth 100000 in
theorem ggX4_vowByHabit_X4_isHouse : GoodIn wsX4_vowByHabit wsX4_isHouse := ygc yCe_wsX4_vowByHabit _ [264, 265, 266, 267, 268, 512, 513, 514, 515, 516, 517, 518, 519, 520, 521, 522, 523, 524, 525, 526, 527, 528, 529] rfl yg_wsX4_isHouse
set_option maxRecDepth 100000 in
theorem gX4_vowByHabit_X4_isHouse : GoodIn wsX4_vowByHabit (wsV RX4 173 RX4 yX4_isHouse wsX4_isHouse) := goodIn_app (ygc yCe_wsX4_vowByHabit _ [260, 261, 262, 263] rfl rfl) ggX4_vowByHabit_X4_isHouse
set_option maxRecDepth 100000 in
theorem ggX4_vowByHabit_X5_append : GoodIn wsX4_vowByHabit wsX5_append := ygc yCe_wsX4_vowByHabit _ [273, 274, 275, 276, 277, 278, 768, 769, 770, 771, 772] rfl yg_wsX5_append
set_option maxRecDepth 100000 in
theorem gX4_vowByHabit_X5_append : GoodIn wsX4_vowByHabit (wsV RX4 135 RX5 yX5_append wsX5_append) := goodIn_app (ygc yCe_wsX4_vowByHabit _ [269, 270, 271, 272] rfl rfl) ggX4_vowByHabit_X5_append
set_option maxRecDepth 100000 in
theorem yg_wsX4_init : wsX4_init.all goodWord = true := by decide +kernel
noncomputable def yC_wsX7_init : List (List Cond) := [[.code yX7_init cX7_init 2 none], wsX7_init_r1, wsX7_init_r2, wsX7_init_r3, wsX7_init_r4, wsX40, wsX70, wsX10, wsX00, wsX20, wsX50, wsX60, wsX30]
set_option maxRecDepth 100000 in
theorem yCe_wsX7_init : wsX7_init = yC_wsX7_init.flatten := rfl
set_option maxRecDepth 100000 in
theorem ggX7_init_X4_init : GoodIn wsX7_init wsX4_init := ygc yCe_wsX7_init _ [512, 513, 257, 258, 514, 515, 516, 517, 518, 519, 520, 521, 522, 523, 524, 525, 526, 527, 528, 529, 530, 531, 532, 533, 534, 535, 768, 769, 770, 771, 772, 773, 774, 775, 1280, 1281, 1282, 1283, 1284, 1285, 1286, 1287, 1288, 1289, 1290, 1291, 1292, 1293, 1294, 1295, 1296, 1297, 2560, 2561, 2562, 2563, 2564, 2816, 2817, 2818] rfl yg_wsX4_init
set_option maxRecDepth 100000 in
theorem gX7_init_X4_init_n9 : GoodIn wsX7_init (wsX4_init) := ggX7_init_X4_init
set_option maxRecDepth 100000 in
theorem yg_wsX1_init : wsX1_init.all goodWord = true := by decide +kernel
set_option maxRecDepth 100000 in
theorem ggX7_init_X1_init : GoodIn wsX7_init wsX1_init := ygc yCe_wsX7_init _ [777, 778, 257, 258, 779, 780, 781, 782, 783, 784, 785, 515, 786, 3072, 3073, 1792, 1793, 1794, 1795, 1796, 1797, 1798, 1799, 1800, 1801, 1802, 1803, 1804] rfl yg_wsX1_init
set_option maxRecDepth 100000 in
theorem gX7_init_X1_init_n25 : GoodIn wsX7_init (wsX1_init) := ggX7_init_X1_init
set_option maxRecDepth 100000 in
theorem yg_wsX0_init : wsX0_init.all goodWord = true := by decide +kernel
set_option maxRecDepth 100000 in
theorem ggX7_init_X0_init : GoodIn wsX7_init wsX0_init := ygc yCe_wsX7_init _ [788, 789, 257, 258, 790, 791, 515, 1024, 2048, 2049] rfl yg_wsX0_init
set_option maxRecDepth 100000 in
theorem gX7_init_X0_init_n37 : GoodIn wsX7_init (wsX0_init) := ggX7_init_X0_init
set_option maxRecDepth 100000 in
theorem yg_wsX2_init : wsX2_init.all goodWord = true := by decide +kernel
set_option maxRecDepth 100000 in
theorem ggX7_init_X2_init : GoodIn wsX7_init wsX2_init := ygc yCe_wsX7_init _ [1026, 1027, 257, 258, 1028, 515, 1029, 2304, 2305, 2306] rfl yg_wsX2_init
set_option maxRecDepth 100000 in
theorem gX7_init_X2_init_n48 : GoodIn wsX7_init (wsX2_init) := ggX7_init_X2_init
set_option maxRecDepth 100000 in
theorem ggX7_feed_X7_within : GoodIn wsX7_feed wsX7_within := goodIn_r _ [6] rfl yg_wsX7_within
set_option maxRecDepth 100000 in
theorem gX7_feed_X7_within : GoodIn wsX7_feed (va_wsS RX7 49 yX7_within wsX7_within) := goodIn_app (goodIn_r _ [3, 4, 5] rfl rfl) ggX7_feed_X7_within
set_option maxRecDepth 100000 in
theorem yg_wsX3_append : wsX3_append.all goodWord = true := by decide +kernel
set_option maxRecDepth 100000 in
theorem ggX7_feed_X3_append : GoodIn wsX7_feed wsX3_append := goodIn_r _ [11, 12, 13, 23, 24] rfl yg_wsX3_append
set_option maxRecDepth 100000 in
theorem gX7_feed_X3_append : GoodIn wsX7_feed (wsV RX7 53 RX3 yX3_append wsX3_append) := goodIn_app (goodIn_r _ [7, 8, 9, 10] rfl rfl) ggX7_feed_X3_append
set_option maxRecDepth 100000 in
theorem ggX7_end_X7_within : GoodIn wsX7_end wsX7_within := goodIn_r _ [6] rfl yg_wsX7_within
set_option maxRecDepth 100000 in
theorem gX7_end_X7_within : GoodIn wsX7_end (va_wsS RX7 49 yX7_within wsX7_within) := goodIn_app (goodIn_r _ [3, 4, 5] rfl rfl) ggX7_end_X7_within
set_option maxRecDepth 100000 in
theorem yg_wsX1_readInto : wsX1_readInto.all goodWord = true := by decide +kernel
noncomputable def yC_wsX7_text : List (List Cond) := [[.code yX7_text cX7_text 1 (some .int)], wsX7_text_r1, wsX7_text_r2, wsX7_text_r3, wsX7_text_r4, wsX7_text_r5, wsX7_text_r6, wsX7_text_r7, wsX7_text_r8, wsX7_text_r9, wsX7_text_r10, wsX7_text_r11, wsX70, wsX30, wsX10, wsX40, wsX50, wsX60]
set_option maxRecDepth 100000 in
theorem yCe_wsX7_text : wsX7_text = yC_wsX7_text.flatten := rfl
set_option maxRecDepth 100000 in
theorem ggX7_text_X1_readInto : GoodIn wsX7_text wsX1_readInto := ygc yCe_wsX7_text _ [269, 270, 271, 272, 273, 274, 275, 276, 277, 278, 279, 512, 513, 514, 515, 516, 517, 518, 519, 520, 521, 522, 523, 524, 525, 526, 527, 528, 529, 530, 531, 532, 533, 534, 535, 768, 769, 770, 771, 772, 773, 774, 775, 776, 777, 778, 268, 779, 780, 781, 782, 783, 784, 785, 786, 787, 788, 789, 790, 791, 1024, 1025, 1026, 1027, 1028, 1029, 1030, 1031, 1032, 1033, 1034, 1035, 1036, 1037, 1038, 1039, 1040, 1041, 1042, 1043, 1044, 1045, 1046, 1047, 1280, 1281, 1282, 1283, 1284, 1285, 1286, 1287, 1288, 1289, 1290, 1291, 1292, 1293, 1294, 1295, 1296, 1297, 1298, 1299, 1300, 1301, 1302, 1303, 1536, 1537, 1538, 1539, 1540, 1541, 1542, 1543, 1544, 1545, 1546, 1547, 1548, 1549, 1550, 1551, 1552, 1553, 1554, 1555, 1556, 1557, 1558, 1559, 1792, 1793, 1794, 1795, 1796, 1797, 1798, 1799, 1800, 1801, 1802, 1803, 1804, 1805, 1806, 1807, 1808, 1809, 1810, 1811, 1812, 1813, 1814, 1815, 2048, 2049, 2050, 2051, 2052, 2053, 2054, 2055, 2056, 2057, 2058, 2059, 2060, 2061, 2062, 2063, 2064, 2065, 2066, 2067, 2068, 2069, 2070, 2071, 2304, 2305, 2306, 2307, 2308, 2309, 2310, 2311, 2312, 2313, 2314, 2315, 2316, 2317, 2318, 2319, 2320, 2321, 2322, 2323, 2324, 2325, 2326, 2327, 2560, 2561, 2562, 2563, 2564, 2565, 2566, 2567, 2568, 2569, 2570, 2571, 2572, 2573, 2574, 2575, 3584, 3585, 3586, 3587, 3588, 3589, 3590, 3591, 3592, 3593, 3594, 3595, 3596, 3840, 3841, 3842, 3843, 3844, 3845, 3846, 3847, 3848, 3849, 3850, 3851, 3852, 3853, 3854, 3855, 3856, 3857, 3328, 3329, 4096, 4097, 4098, 4099, 4100, 4352, 4353, 4354] rfl yg_wsX1_readInto
set_option maxRecDepth 100000 in
theorem gX7_text_X1_readInto : GoodIn wsX7_text (wsV RX7 63 RX1 yX1_readInto wsX1_readInto) := goodIn_app (ygc yCe_wsX7_text _ [265, 266, 267, 268] rfl rfl) ggX7_text_X1_readInto
set_option maxRecDepth 100000 in
theorem yg_wsX4_copyFrom : wsX4_copyFrom.all goodWord = true := by decide +kernel
set_option maxRecDepth 100000 in
theorem ggX7_text_X4_copyFrom : GoodIn wsX7_text wsX4_copyFrom := ygc yCe_wsX7_text _ [2579, 522, 523, 524, 525, 1798, 2580, 2581, 2582, 2583, 526, 527, 773, 774, 775, 528, 529, 531, 533, 534, 535, 768, 2816, 2817, 2818, 2319, 2819, 2321, 2322, 2820, 2323, 2324, 2325, 2821, 2822, 2823, 2567, 2824, 2569, 2570, 2825, 2571, 3840, 3841, 3842, 3843, 3844, 3845, 3846, 3847, 3848, 3849, 3850, 3851, 3852, 3853, 3854, 3855, 3856, 3857, 4096, 4097, 4098, 4099, 4100, 4352, 4353, 4354] rfl yg_wsX4_copyFrom
set_option maxRecDepth 100000 in
theorem gX7_text_X4_copyFrom : GoodIn wsX7_text (wsV RX7 73 RX4 yX4_copyFrom wsX4_copyFrom) := goodIn_app (ygc yCe_wsX7_text _ [2576, 2577, 2578, 520] rfl rfl) ggX7_text_X4_copyFrom
noncomputable def yC_wsX7_house : List (List Cond) := [[.code yX7_house cX7_house 3 (some .int)], wsX7_house_r1, wsX7_house_r2, wsX70, wsX40]
set_option maxRecDepth 100000 in
theorem yCe_wsX7_house : wsX7_house = yC_wsX7_house.flatten := rfl
set_option maxRecDepth 100000 in
theorem ggX7_house_X4_isHouse : GoodIn wsX7_house wsX4_isHouse := ygc yCe_wsX7_house _ [269, 270, 271, 272, 273, 1024, 1025, 1026, 1027, 1028, 1029, 1030, 1031, 1032, 1033, 1034, 1035, 1036, 1037, 1038, 1039, 1040, 1041] rfl yg_wsX4_isHouse
set_option maxRecDepth 100000 in
theorem gX7_house_X4_isHouse : GoodIn wsX7_house (wsV RX7 118 RX4 yX4_isHouse wsX4_isHouse) := goodIn_app (ygc yCe_wsX7_house _ [265, 266, 267, 268] rfl rfl) ggX7_house_X4_isHouse
set_option maxRecDepth 100000 in
theorem ggX7_house_X7_bit : GoodIn wsX7_house wsX7_bit := ygc yCe_wsX7_house _ [276] rfl yg_wsX7_bit
set_option maxRecDepth 100000 in
theorem gX7_house_X7_bit : GoodIn wsX7_house (va_wsS RX7 131 yX7_bit wsX7_bit) := goodIn_app (ygc yCe_wsX7_house _ [274, 275, 272] rfl rfl) ggX7_house_X7_bit
set_option maxRecDepth 100000 in
theorem ggX7_house_X7_within : GoodIn wsX7_house wsX7_within := ygc yCe_wsX7_house _ [273] rfl yg_wsX7_within
set_option maxRecDepth 100000 in
theorem gX7_house_X7_within : GoodIn wsX7_house (va_wsS RX7 49 yX7_within wsX7_within) := goodIn_app (ygc yCe_wsX7_house _ [277, 271, 272] rfl rfl) ggX7_house_X7_within
set_option maxRecDepth 100000 in
theorem ggX7_house_X7_doneAt : GoodIn wsX7_house wsX7_doneAt := ygc yCe_wsX7_house _ [512] rfl yg_wsX7_doneAt
set_option maxRecDepth 100000 in
theorem gX7_house_X7_doneAt : GoodIn wsX7_house (va_wsS RX7 147 yX7_doneAt wsX7_doneAt) := goodIn_app (ygc yCe_wsX7_house _ [278, 279, 272] rfl rfl) ggX7_house_X7_doneAt
set_option maxRecDepth 100000 in
theorem yg_wsX4_isDeed : wsX4_isDeed.all goodWord = true := by decide +kernel
set_option maxRecDepth 100000 in
theorem ggX7_cost_X4_isDeed : GoodIn wsX7_cost wsX4_isDeed := goodIn_r _ [7, 8, 9, 10, 11, 21, 22, 23, 24, 25, 26, 27, 28, 29, 30, 31, 32, 33, 34, 35, 36, 37, 38] rfl yg_wsX4_isDeed
set_option maxRecDepth 100000 in
theorem gX7_cost_X4_isDeed : GoodIn wsX7_cost (wsV RX7 150 RX4 yX4_isDeed wsX4_isDeed) := goodIn_app (goodIn_r _ [3, 4, 5, 6] rfl rfl) ggX7_cost_X4_isDeed
noncomputable def yC_wsX7_vow : List (List Cond) := [[.code yX7_vow cX7_vow 3 (some .int)], [.fieldLink RX7 10 "VowTerrace" "now" "LVowTerrace$Terrace;", .fieldLink RX7 92 "VowTerrace$Terrace" "vowRow" "LVowTerrace$VowRow;", .fieldLink RX7 96 "VowTerrace$VowRow" "size" "I", .fieldLink RX7 156 "VowTerrace$VowRow" "house" "[I", .fieldLink RX7 159 "VowTerrace$VowRow" "kind" "[I", .fieldLink RX7 162 "VowTerrace$VowRow" "deep" "[I", .fieldLink RX7 165 "VowTerrace$VowRow" "deed" "[I", .methodLink RX7 49 yX7_within, .static yX7_within, .initialized RX7, .code yX7_within cX7_within 3 (some .boolean)], wsX70, wsX40, wsX50]
set_option maxRecDepth 100000 in
theorem yCe_wsX7_vow : wsX7_vow = yC_wsX7_vow.flatten := rfl
set_option maxRecDepth 100000 in
theorem ggX7_vow_X7_within : GoodIn wsX7_vow wsX7_within := ygc yCe_wsX7_vow _ [266] rfl yg_wsX7_within
set_option maxRecDepth 100000 in
theorem gX7_vow_X7_within : GoodIn wsX7_vow (va_wsS RX7 49 yX7_within wsX7_within) := goodIn_app (ygc yCe_wsX7_vow _ [263, 264, 265] rfl rfl) ggX7_vow_X7_within
set_option maxRecDepth 100000 in
theorem ggX7_want_X7_within : GoodIn wsX7_want wsX7_within := goodIn_r _ [9] rfl yg_wsX7_within
set_option maxRecDepth 100000 in
theorem gX7_want_X7_within : GoodIn wsX7_want (va_wsS RX7 49 yX7_within wsX7_within) := goodIn_app (goodIn_r _ [6, 7, 8] rfl rfl) ggX7_want_X7_within
set_option maxRecDepth 100000 in
theorem ggX7_fund_X4_isHouse : GoodIn wsX7_fund wsX4_isHouse := goodIn_r _ [7, 8, 9, 10, 11, 22, 23, 24, 25, 26, 27, 28, 29, 30, 31, 32, 33, 34, 35, 36, 37, 38, 39] rfl yg_wsX4_isHouse
set_option maxRecDepth 100000 in
theorem gX7_fund_X4_isHouse : GoodIn wsX7_fund (wsV RX7 118 RX4 yX4_isHouse wsX4_isHouse) := goodIn_app (goodIn_r _ [3, 4, 5, 6] rfl rfl) ggX7_fund_X4_isHouse
set_option maxRecDepth 100000 in
theorem ggX7_fund_X7_within : GoodIn wsX7_fund wsX7_within := goodIn_r _ [11] rfl yg_wsX7_within
set_option maxRecDepth 100000 in
theorem gX7_fund_X7_within : GoodIn wsX7_fund (va_wsS RX7 49 yX7_within wsX7_within) := goodIn_app (goodIn_r _ [12, 9, 10] rfl rfl) ggX7_fund_X7_within
noncomputable def yC_wsX7_can : List (List Cond) := [[.code yX7_can cX7_can 5 (some .int)], [.fieldLink RX7 10 "VowTerrace" "now" "LVowTerrace$Terrace;", .fieldLink RX7 125 "VowTerrace$Terrace" "skills" "[I", .methodLink RX7 118 yX4_isHouse, .instanceMethod yX4_isHouse, .selects RX4 yX4_isHouse yX4_isHouse, .initialized RX4, .code yX4_isHouse cX4_isHouse 2 (some .boolean), .fieldLink RX4 9 "VowTerrace$Terrace" "houses" "I", .static yX7_within, .initialized RX7, .code yX7_within cX7_within 3 (some .boolean), .methodLink RX7 150 yX4_isDeed, .instanceMethod yX4_isDeed, .selects RX4 yX4_isDeed yX4_isDeed, .code yX4_isDeed cX4_isDeed 2 (some .boolean), .fieldLink RX4 58 "VowTerrace$Terrace" "deeds" "I", .methodLink RX7 131 yX7_bit, .static yX7_bit, .code yX7_bit cX7_bit 2 (some .int), .methodLink RX7 170 yX7_withBit, .static yX7_withBit, .code yX7_withBit cX7_withBit 3 (some .int)], wsX70, wsX40]
set_option maxRecDepth 100000 in
theorem yCe_wsX7_can : wsX7_can = yC_wsX7_can.flatten := rfl
set_option maxRecDepth 100000 in
theorem ggX7_can_X4_isHouse : GoodIn wsX7_can wsX4_isHouse := ygc yCe_wsX7_can _ [262, 263, 264, 265, 266, 768, 769, 770, 771, 772, 773, 774, 775, 776, 777, 778, 779, 780, 781, 782, 783, 784, 785] rfl yg_wsX4_isHouse
set_option maxRecDepth 100000 in
theorem gX7_can_X4_isHouse : GoodIn wsX7_can (wsV RX7 118 RX4 yX4_isHouse wsX4_isHouse) := goodIn_app (ygc yCe_wsX7_can _ [258, 259, 260, 261] rfl rfl) ggX7_can_X4_isHouse
set_option maxRecDepth 100000 in
theorem ggX7_can_X4_isDeed : GoodIn wsX7_can wsX4_isDeed := ygc yCe_wsX7_can _ [270, 271, 264, 265, 266, 768, 769, 770, 771, 772, 773, 774, 775, 776, 777, 778, 779, 780, 781, 782, 783, 784, 785] rfl yg_wsX4_isDeed
set_option maxRecDepth 100000 in
theorem gX7_can_X4_isDeed : GoodIn wsX7_can (wsV RX7 150 RX4 yX4_isDeed wsX4_isDeed) := goodIn_app (ygc yCe_wsX7_can _ [267, 268, 269, 261] rfl rfl) ggX7_can_X4_isDeed
set_option maxRecDepth 100000 in
theorem ggX7_can_X7_bit : GoodIn wsX7_can wsX7_bit := ygc yCe_wsX7_can _ [274] rfl yg_wsX7_bit
set_option maxRecDepth 100000 in
theorem gX7_can_X7_bit : GoodIn wsX7_can (va_wsS RX7 131 yX7_bit wsX7_bit) := goodIn_app (ygc yCe_wsX7_can _ [272, 273, 265] rfl rfl) ggX7_can_X7_bit
set_option maxRecDepth 100000 in
theorem ggX7_can_X7_withBit : GoodIn wsX7_can wsX7_withBit := ygc yCe_wsX7_can _ [277] rfl yg_wsX7_withBit
set_option maxRecDepth 100000 in
theorem gX7_can_X7_withBit : GoodIn wsX7_can (va_wsS RX7 170 yX7_withBit wsX7_withBit) := goodIn_app (ygc yCe_wsX7_can _ [275, 276, 265] rfl rfl) ggX7_can_X7_withBit
noncomputable def yC_wsX7_lawyer : List (List Cond) := [[.code yX7_lawyer cX7_lawyer 4 (some .int)], [.fieldLink RX7 10 "VowTerrace" "now" "LVowTerrace$Terrace;", .fieldLink RX7 128 "VowTerrace$Terrace" "lawyers" "I", .methodLink RX7 118 yX4_isHouse, .instanceMethod yX4_isHouse, .selects RX4 yX4_isHouse yX4_isHouse, .initialized RX4, .code yX4_isHouse cX4_isHouse 2 (some .boolean), .fieldLink RX4 9 "VowTerrace$Terrace" "houses" "I", .static yX7_within, .initialized RX7, .code yX7_within cX7_within 3 (some .boolean), .methodLink RX7 131 yX7_bit, .static yX7_bit, .code yX7_bit cX7_bit 2 (some .int), .methodLink RX7 170 yX7_withBit, .static yX7_withBit, .code yX7_withBit cX7_withBit 3 (some .int)], wsX70, wsX40]
set_option maxRecDepth 100000 in
theorem yCe_wsX7_lawyer : wsX7_lawyer = yC_wsX7_lawyer.flatten := rfl
set_option maxRecDepth 100000 in
theorem ggX7_lawyer_X4_isHouse : GoodIn wsX7_lawyer wsX4_isHouse := ygc yCe_wsX7_lawyer _ [262, 263, 264, 265, 266, 768, 769, 770, 771, 772, 773, 774, 775, 776, 777, 778, 779, 780, 781, 782, 783, 784, 785] rfl yg_wsX4_isHouse
set_option maxRecDepth 100000 in
theorem gX7_lawyer_X4_isHouse : GoodIn wsX7_lawyer (wsV RX7 118 RX4 yX4_isHouse wsX4_isHouse) := goodIn_app (ygc yCe_wsX7_lawyer _ [258, 259, 260, 261] rfl rfl) ggX7_lawyer_X4_isHouse
set_option maxRecDepth 100000 in
theorem ggX7_lawyer_X7_bit : GoodIn wsX7_lawyer wsX7_bit := ygc yCe_wsX7_lawyer _ [269] rfl yg_wsX7_bit
set_option maxRecDepth 100000 in
theorem gX7_lawyer_X7_bit : GoodIn wsX7_lawyer (va_wsS RX7 131 yX7_bit wsX7_bit) := goodIn_app (ygc yCe_wsX7_lawyer _ [267, 268, 265] rfl rfl) ggX7_lawyer_X7_bit
set_option maxRecDepth 100000 in
theorem ggX7_lawyer_X7_withBit : GoodIn wsX7_lawyer wsX7_withBit := ygc yCe_wsX7_lawyer _ [272] rfl yg_wsX7_withBit
set_option maxRecDepth 100000 in
theorem gX7_lawyer_X7_withBit : GoodIn wsX7_lawyer (va_wsS RX7 170 yX7_withBit wsX7_withBit) := goodIn_app (ygc yCe_wsX7_lawyer _ [270, 271, 265] rfl rfl) ggX7_lawyer_X7_withBit
noncomputable def yC_wsX7_habit : List (List Cond) := [[.code yX7_habit cX7_habit 6 (some .int)], wsX7_habit_r1, wsX7_habit_r2, wsX70, wsX40]
set_option maxRecDepth 100000 in
theorem yCe_wsX7_habit : wsX7_habit = yC_wsX7_habit.flatten := rfl
set_option maxRecDepth 100000 in
theorem ggX7_habit_X4_isHouse : GoodIn wsX7_habit wsX4_isHouse := ygc yCe_wsX7_habit _ [262, 263, 264, 265, 266, 1024, 1025, 1026, 1027, 1028, 1029, 1030, 1031, 1032, 1033, 1034, 1035, 1036, 1037, 1038, 1039, 1040, 1041] rfl yg_wsX4_isHouse
set_option maxRecDepth 100000 in
theorem gX7_habit_X4_isHouse : GoodIn wsX7_habit (wsV RX7 118 RX4 yX4_isHouse wsX4_isHouse) := goodIn_app (ygc yCe_wsX7_habit _ [258, 259, 260, 261] rfl rfl) ggX7_habit_X4_isHouse
set_option maxRecDepth 100000 in
theorem yg_wsX7_isKind : wsX7_isKind.all goodWord = true := by decide +kernel
set_option maxRecDepth 100000 in
theorem ggX7_habit_X7_isKind : GoodIn wsX7_habit wsX7_isKind := ygc yCe_wsX7_habit _ [269, 270, 264, 265, 266] rfl yg_wsX7_isKind
set_option maxRecDepth 100000 in
theorem gX7_habit_X7_isKind : GoodIn wsX7_habit (va_wsS RX7 174 yX7_isKind wsX7_isKind) := goodIn_app (ygc yCe_wsX7_habit _ [267, 268, 265] rfl rfl) ggX7_habit_X7_isKind
set_option maxRecDepth 100000 in
theorem ggX7_habit_X4_isDeed : GoodIn wsX7_habit wsX4_isDeed := ygc yCe_wsX7_habit _ [274, 275, 264, 265, 266, 1024, 1025, 1026, 1027, 1028, 1029, 1030, 1031, 1032, 1033, 1034, 1035, 1036, 1037, 1038, 1039, 1040, 1041] rfl yg_wsX4_isDeed
set_option maxRecDepth 100000 in
theorem gX7_habit_X4_isDeed : GoodIn wsX7_habit (wsV RX7 150 RX4 yX4_isDeed wsX4_isDeed) := goodIn_app (ygc yCe_wsX7_habit _ [271, 272, 273, 261] rfl rfl) ggX7_habit_X4_isDeed
set_option maxRecDepth 100000 in
theorem ggX7_habit_X7_within : GoodIn wsX7_habit wsX7_within := ygc yCe_wsX7_habit _ [266] rfl yg_wsX7_within
set_option maxRecDepth 100000 in
theorem gX7_habit_X7_within : GoodIn wsX7_habit (va_wsS RX7 49 yX7_within wsX7_within) := goodIn_app (ygc yCe_wsX7_habit _ [270, 264, 265] rfl rfl) ggX7_habit_X7_within
set_option maxRecDepth 100000 in
theorem ggX7_habit_X4_setHabit : GoodIn wsX7_habit wsX4_setHabit := ygc yCe_wsX7_habit _ [279, 512, 513, 514, 1024, 1025, 1026, 1027, 1028, 1029, 1030, 1031, 1032, 1033, 1034, 1035, 1036, 1037, 1038, 1039, 1040, 1041] rfl yg_wsX4_setHabit
set_option maxRecDepth 100000 in
theorem gX7_habit_X4_setHabit : GoodIn wsX7_habit (wsV RX7 177 RX4 yX4_setHabit wsX4_setHabit) := goodIn_app (ygc yCe_wsX7_habit _ [276, 277, 278, 261] rfl rfl) ggX7_habit_X4_setHabit
noncomputable def yC_wsX7_vows : List (List Cond) := [[.code yX7_vows cX7_vows 5 (some .int)], wsX7_vows_r1, wsX7_vows_r2, wsX70, wsX40, wsX50]
set_option maxRecDepth 100000 in
theorem yCe_wsX7_vows : wsX7_vows = yC_wsX7_vows.flatten := rfl
set_option maxRecDepth 100000 in
theorem ggX7_vows_X4_isHouse : GoodIn wsX7_vows wsX4_isHouse := ygc yCe_wsX7_vows _ [263, 264, 265, 266, 267, 1024, 1025, 1026, 1027, 1028, 1029, 1030, 1031, 1032, 1033, 1034, 1035, 1036, 1037, 1038, 1039, 1040, 1041] rfl yg_wsX4_isHouse
set_option maxRecDepth 100000 in
theorem gX7_vows_X4_isHouse : GoodIn wsX7_vows (wsV RX7 118 RX4 yX4_isHouse wsX4_isHouse) := goodIn_app (ygc yCe_wsX7_vows _ [259, 260, 261, 262] rfl rfl) ggX7_vows_X4_isHouse
set_option maxRecDepth 100000 in
theorem ggX7_vows_X7_isKind : GoodIn wsX7_vows wsX7_isKind := ygc yCe_wsX7_vows _ [270, 271, 265, 266, 267] rfl yg_wsX7_isKind
set_option maxRecDepth 100000 in
theorem gX7_vows_X7_isKind : GoodIn wsX7_vows (va_wsS RX7 174 yX7_isKind wsX7_isKind) := goodIn_app (ygc yCe_wsX7_vows _ [268, 269, 266] rfl rfl) ggX7_vows_X7_isKind
set_option maxRecDepth 100000 in
theorem ggX7_vows_X7_isDepth : GoodIn wsX7_vows wsX7_isDepth := ygc yCe_wsX7_vows _ [274, 271, 265, 266, 267] rfl yg_wsX7_isDepth
set_option maxRecDepth 100000 in
theorem gX7_vows_X7_isDepth : GoodIn wsX7_vows (va_wsS RX7 181 yX7_isDepth wsX7_isDepth) := goodIn_app (ygc yCe_wsX7_vows _ [272, 273, 266] rfl rfl) ggX7_vows_X7_isDepth
set_option maxRecDepth 100000 in
theorem ggX7_vows_X4_isDeed : GoodIn wsX7_vows wsX4_isDeed := ygc yCe_wsX7_vows _ [278, 279, 265, 266, 267, 1024, 1025, 1026, 1027, 1028, 1029, 1030, 1031, 1032, 1033, 1034, 1035, 1036, 1037, 1038, 1039, 1040, 1041] rfl yg_wsX4_isDeed
set_option maxRecDepth 100000 in
theorem gX7_vows_X4_isDeed : GoodIn wsX7_vows (wsV RX7 150 RX4 yX4_isDeed wsX4_isDeed) := goodIn_app (ygc yCe_wsX7_vows _ [275, 276, 277, 262] rfl rfl) ggX7_vows_X4_isDeed
set_option maxRecDepth 100000 in
theorem ggX7_vows_X5_append : GoodIn wsX7_vows wsX5_append := ygc yCe_wsX7_vows _ [516, 517, 518, 519, 520, 521, 1280, 1281, 1282, 1283, 1284] rfl yg_wsX5_append
set_option maxRecDepth 100000 in
theorem gX7_vows_X5_append : GoodIn wsX7_vows (wsV RX7 184 RX5 yX5_append wsX5_append) := goodIn_app (ygc yCe_wsX7_vows _ [512, 513, 514, 515] rfl rfl) ggX7_vows_X5_append
noncomputable def yC_wsX7_wish : List (List Cond) := [[.code yX7_wish cX7_wish 3 (some .int)], wsX7_wish_r1, wsX7_wish_r2, wsX70, wsX40, wsX60]
set_option maxRecDepth 100000 in
theorem yCe_wsX7_wish : wsX7_wish = yC_wsX7_wish.flatten := rfl
set_option maxRecDepth 100000 in
theorem ggX7_wish_X4_isHouse : GoodIn wsX7_wish wsX4_isHouse := ygc yCe_wsX7_wish _ [263, 264, 265, 266, 267, 1024, 1025, 1026, 1027, 1028, 1029, 1030, 1031, 1032, 1033, 1034, 1035, 1036, 1037, 1038, 1039, 1040, 1041] rfl yg_wsX4_isHouse
set_option maxRecDepth 100000 in
theorem gX7_wish_X4_isHouse : GoodIn wsX7_wish (wsV RX7 118 RX4 yX4_isHouse wsX4_isHouse) := goodIn_app (ygc yCe_wsX7_wish _ [259, 260, 261, 262] rfl rfl) ggX7_wish_X4_isHouse
set_option maxRecDepth 100000 in
theorem ggX7_wish_X4_isDeed : GoodIn wsX7_wish wsX4_isDeed := ygc yCe_wsX7_wish _ [271, 272, 265, 266, 267, 1024, 1025, 1026, 1027, 1028, 1029, 1030, 1031, 1032, 1033, 1034, 1035, 1036, 1037, 1038, 1039, 1040, 1041] rfl yg_wsX4_isDeed
set_option maxRecDepth 100000 in
theorem gX7_wish_X4_isDeed : GoodIn wsX7_wish (wsV RX7 150 RX4 yX4_isDeed wsX4_isDeed) := goodIn_app (ygc yCe_wsX7_wish _ [268, 269, 270, 262] rfl rfl) ggX7_wish_X4_isDeed
set_option maxRecDepth 100000 in
theorem ggX7_wish_X6_append : GoodIn wsX7_wish wsX6_append := ygc yCe_wsX7_wish _ [277, 278, 279, 512, 1280, 1281, 1282] rfl yg_wsX6_append
set_option maxRecDepth 100000 in
theorem gX7_wish_X6_append : GoodIn wsX7_wish (wsV RX7 187 RX6 yX6_append wsX6_append) := goodIn_app (ygc yCe_wsX7_wish _ [273, 274, 275, 276] rfl rfl) ggX7_wish_X6_append
noncomputable def yC_wsX7_drop : List (List Cond) := [[.code yX7_drop cX7_drop 4 (some .int)], [.fieldLink RX7 10 "VowTerrace" "now" "LVowTerrace$Terrace;", .fieldLink RX7 92 "VowTerrace$Terrace" "vowRow" "LVowTerrace$VowRow;", .fieldLink RX7 96 "VowTerrace$VowRow" "size" "I", .fieldLink RX7 99 "VowTerrace$Terrace" "wantRow" "LVowTerrace$WantRow;", .fieldLink RX7 103 "VowTerrace$WantRow" "size" "I", .methodLink RX7 49 yX7_within, .static yX7_within, .initialized RX7, .code yX7_within cX7_within 3 (some .boolean)], wsX70, wsX40, wsX50, wsX60]
set_option maxRecDepth 100000 in
theorem yCe_wsX7_drop : wsX7_drop = yC_wsX7_drop.flatten := rfl
set_option maxRecDepth 100000 in
theorem ggX7_drop_X7_within : GoodIn wsX7_drop wsX7_within := ygc yCe_wsX7_drop _ [264] rfl yg_wsX7_within
set_option maxRecDepth 100000 in
theorem gX7_drop_X7_within : GoodIn wsX7_drop (va_wsS RX7 49 yX7_within wsX7_within) := goodIn_app (ygc yCe_wsX7_drop _ [261, 262, 263] rfl rfl) ggX7_drop_X7_within
noncomputable def yC_wsX7_move : List (List Cond) := [[.code yX7_move cX7_move 3 (some .int)], [.fieldLink RX7 10 "VowTerrace" "now" "LVowTerrace$Terrace;", .fieldLink RX7 125 "VowTerrace$Terrace" "skills" "[I", .methodLink RX7 118 yX4_isHouse, .instanceMethod yX4_isHouse, .selects RX4 yX4_isHouse yX4_isHouse, .initialized RX4, .code yX4_isHouse cX4_isHouse 2 (some .boolean), .fieldLink RX4 9 "VowTerrace$Terrace" "houses" "I", .static yX7_within, .initialized RX7, .code yX7_within cX7_within 3 (some .boolean), .methodLink RX7 190 yX4_changeHouses, .instanceMethod yX4_changeHouses, .selects RX4 yX4_changeHouses yX4_changeHouses, .code yX4_changeHouses cX4_changeHouses 5 none, .fieldLink RX4 19 "VowTerrace$Terrace" "purse" "[I", .fieldLink RX4 22 "VowTerrace$Terrace" "skills" "[I", .methodLink RX7 194 yJ6_bitCount_0f7a4, .static yJ6_bitCount_0f7a4, .initialized RJ6, .code yJ6_bitCount_0f7a4 cJ6_bitCount_0f7a4 1 (some .int), .constant RJ6 265 (1431655765), .constant RJ6 266 (858993459), .constant RJ6 267 (252645135)], wsX70, wsX40]
set_option maxRecDepth 100000 in
theorem yCe_wsX7_move : wsX7_move = yC_wsX7_move.flatten := rfl
set_option maxRecDepth 100000 in
theorem ggX7_move_X4_isHouse : GoodIn wsX7_move wsX4_isHouse := ygc yCe_wsX7_move _ [262, 263, 264, 265, 266, 768, 769, 770, 771, 772, 773, 774, 775, 776, 777, 778, 779, 780, 781, 782, 783, 784, 785] rfl yg_wsX4_isHouse
set_option maxRecDepth 100000 in
theorem gX7_move_X4_isHouse : GoodIn wsX7_move (wsV RX7 118 RX4 yX4_isHouse wsX4_isHouse) := goodIn_app (ygc yCe_wsX7_move _ [258, 259, 260, 261] rfl rfl) ggX7_move_X4_isHouse
set_option maxRecDepth 100000 in
theorem yg_wsX4_changeHouses : wsX4_changeHouses.all goodWord = true := by decide +kernel
set_option maxRecDepth 100000 in
theorem ggX7_move_X4_changeHouses : GoodIn wsX7_move wsX4_changeHouses := ygc yCe_wsX7_move _ [270, 271, 272, 768, 769, 770, 771, 772, 773, 774, 775, 776, 777, 778, 779, 780, 781, 782, 783, 784, 785] rfl yg_wsX4_changeHouses
set_option maxRecDepth 100000 in
theorem gX7_move_X4_changeHouses : GoodIn wsX7_move (wsV RX7 190 RX4 yX4_changeHouses wsX4_changeHouses) := goodIn_app (ygc yCe_wsX7_move _ [267, 268, 269, 261] rfl rfl) ggX7_move_X4_changeHouses
set_option maxRecDepth 100000 in
theorem yg_wsJ6_bitCount_0f7a4 : wsJ6_bitCount_0f7a4.all goodWord = true := by decide +kernel
set_option maxRecDepth 100000 in
theorem ggX7_move_J6_bitCount_0f7a4 : GoodIn wsX7_move wsJ6_bitCount_0f7a4 := ygc yCe_wsX7_move _ [276, 277, 278, 279] rfl yg_wsJ6_bitCount_0f7a4
set_option maxRecDepth 100000 in
theorem gX7_move_J6_bitCount_0f7a4 : GoodIn wsX7_move (va_wsS RX7 194 yJ6_bitCount_0f7a4 wsJ6_bitCount_0f7a4) := goodIn_app (ygc yCe_wsX7_move _ [273, 274, 275] rfl rfl) ggX7_move_J6_bitCount_0f7a4
noncomputable def yC_wsX7_go : List (List Cond) := [[.code yX7_go cX7_go 2 (some .int)], wsX7_go_r1, wsX7_go_r2, wsX7_go_r3, wsX70, wsX40, wsX50]
set_option maxRecDepth 100000 in
theorem yCe_wsX7_go : wsX7_go = yC_wsX7_go.flatten := rfl
set_option maxRecDepth 100000 in
theorem ggX7_go_X7_within : GoodIn wsX7_go wsX7_within := ygc yCe_wsX7_go _ [261] rfl yg_wsX7_within
set_option maxRecDepth 100000 in
theorem gX7_go_X7_within : GoodIn wsX7_go (va_wsS RX7 49 yX7_within wsX7_within) := goodIn_app (ygc yCe_wsX7_go _ [258, 259, 260] rfl rfl) ggX7_go_X7_within
set_option maxRecDepth 100000 in
theorem yg_wsX4_passDays : wsX4_passDays.all goodWord = true := by decide +kernel
set_option maxRecDepth 100000 in
theorem ggX7_go_X4_passDays : GoodIn wsX7_go wsX4_passDays := ygc yCe_wsX7_go _ [266, 267, 268, 269, 265, 270, 271, 272, 273, 274, 275, 276, 277, 278, 279, 512, 513, 514, 515, 516, 517, 518, 519, 520, 521, 522, 523, 524, 525, 526, 527, 528, 529, 530, 260, 531, 532, 533, 534, 535, 768, 769, 770, 771, 772, 773, 774, 775, 776, 777, 778, 779, 780, 781, 782, 783, 784, 785, 786, 787, 788, 789, 790, 791, 1280, 1281, 1282, 1283, 1284, 1285, 1286, 1287, 1288, 1289, 1290, 1291, 1292, 1293, 1294, 1295, 1296, 1297, 1536, 1537, 1538, 1539, 1540] rfl yg_wsX4_passDays
set_option maxRecDepth 100000 in
theorem gX7_go_X4_passDays : GoodIn wsX7_go (wsV RX7 200 RX4 yX4_passDays wsX4_passDays) := goodIn_app (ygc yCe_wsX7_go _ [262, 263, 264, 265] rfl rfl) ggX7_go_X4_passDays
noncomputable def yC_wsX7_ahead : List (List Cond) := [[.code yX7_ahead cX7_ahead 4 (some .int)], wsX7_ahead_r1, wsX7_ahead_r2, wsX7_ahead_r3, wsX7_ahead_r4, wsX7_ahead_r5, wsX70, wsX40, wsX50, wsX60]
set_option maxRecDepth 100000 in
theorem yCe_wsX7_ahead : wsX7_ahead = yC_wsX7_ahead.flatten := rfl
set_option maxRecDepth 100000 in
theorem ggX7_ahead_X4_isHouse : GoodIn wsX7_ahead wsX4_isHouse := ygc yCe_wsX7_ahead _ [263, 264, 265, 266, 267, 1792, 1793, 1794, 1795, 1796, 1797, 1798, 1799, 1800, 1801, 1802, 1803, 1804, 1805, 1806, 1807, 1808, 1809] rfl yg_wsX4_isHouse
set_option maxRecDepth 100000 in
theorem gX7_ahead_X4_isHouse : GoodIn wsX7_ahead (wsV RX7 118 RX4 yX4_isHouse wsX4_isHouse) := goodIn_app (ygc yCe_wsX7_ahead _ [259, 260, 261, 262] rfl rfl) ggX7_ahead_X4_isHouse
set_option maxRecDepth 100000 in
theorem ggX7_ahead_X4_isDeed : GoodIn wsX7_ahead wsX4_isDeed := ygc yCe_wsX7_ahead _ [271, 272, 265, 266, 267, 1792, 1793, 1794, 1795, 1796, 1797, 1798, 1799, 1800, 1801, 1802, 1803, 1804, 1805, 1806, 1807, 1808, 1809] rfl yg_wsX4_isDeed
set_option maxRecDepth 100000 in
theorem gX7_ahead_X4_isDeed : GoodIn wsX7_ahead (wsV RX7 150 RX4 yX4_isDeed wsX4_isDeed) := goodIn_app (ygc yCe_wsX7_ahead _ [268, 269, 270, 262] rfl rfl) ggX7_ahead_X4_isDeed
set_option maxRecDepth 100000 in
theorem ggX7_ahead_X7_within : GoodIn wsX7_ahead wsX7_within := ygc yCe_wsX7_ahead _ [267] rfl yg_wsX7_within
set_option maxRecDepth 100000 in
theorem gX7_ahead_X7_within : GoodIn wsX7_ahead (va_wsS RX7 49 yX7_within wsX7_within) := goodIn_app (ygc yCe_wsX7_ahead _ [273, 265, 266] rfl rfl) ggX7_ahead_X7_within
set_option maxRecDepth 100000 in
theorem ggX7_ahead_X4_copyFrom : GoodIn wsX7_ahead wsX4_copyFrom := ygc yCe_wsX7_ahead _ [277, 264, 278, 272, 279, 512, 513, 514, 515, 516, 517, 518, 519, 520, 521, 522, 523, 524, 525, 526, 527, 528, 529, 530, 531, 532, 533, 534, 535, 768, 769, 770, 771, 772, 773, 774, 775, 776, 777, 778, 779, 780, 1792, 1793, 1794, 1795, 1796, 1797, 1798, 1799, 1800, 1801, 1802, 1803, 1804, 1805, 1806, 1807, 1808, 1809, 2048, 2049, 2050, 2051, 2052, 2304, 2305, 2306] rfl yg_wsX4_copyFrom
set_option maxRecDepth 100000 in
theorem gX7_ahead_X4_copyFrom : GoodIn wsX7_ahead (wsV RX7 73 RX4 yX4_copyFrom wsX4_copyFrom) := goodIn_app (ygc yCe_wsX7_ahead _ [274, 275, 276, 262] rfl rfl) ggX7_ahead_X4_copyFrom
set_option maxRecDepth 100000 in
theorem ggX7_ahead_X4_passDays : GoodIn wsX7_ahead wsX4_passDays := ygc yCe_wsX7_ahead _ [784, 785, 786, 787, 262, 788, 789, 790, 523, 791, 1024, 525, 1025, 1026, 1027, 1028, 1029, 1030, 1031, 1032, 1033, 1034, 278, 264, 1035, 1036, 1037, 1038, 526, 279, 527, 1039, 1040, 1041, 266, 1042, 1043, 1044, 1045, 532, 1046, 534, 535, 769, 770, 771, 1047, 1280, 1281, 1282, 522, 1283, 1284, 1285, 1286, 518, 517, 512, 528, 1287, 1288, 1289, 1290, 1291, 1792, 1793, 1794, 1795, 1796, 1797, 1798, 1799, 1800, 1801, 1802, 1803, 1804, 1805, 1806, 1807, 1808, 1809, 2048, 2049, 2050, 2051, 2052] rfl yg_wsX4_passDays
set_option maxRecDepth 100000 in
theorem gX7_ahead_X4_passDays : GoodIn wsX7_ahead (wsV RX7 200 RX4 yX4_passDays wsX4_passDays) := goodIn_app (ygc yCe_wsX7_ahead _ [781, 782, 783, 262] rfl rfl) ggX7_ahead_X4_passDays
set_option maxRecDepth 100000 in
theorem ggX7_ahead_X7_doneAt : GoodIn wsX7_ahead wsX7_doneAt := ygc yCe_wsX7_ahead _ [1291] rfl yg_wsX7_doneAt
set_option maxRecDepth 100000 in
theorem gX7_ahead_X7_doneAt : GoodIn wsX7_ahead (va_wsS RX7 147 yX7_doneAt wsX7_doneAt) := goodIn_app (ygc yCe_wsX7_ahead _ [1292, 1290, 266] rfl rfl) ggX7_ahead_X7_doneAt
noncomputable def yC_wsX7_rest : List (List Cond) := [[.code yX7_rest cX7_rest 2 (some .int)], wsX7_rest_r1, wsX7_rest_r2, wsX7_rest_r3, wsX7_rest_r4, wsX70, wsX40, wsX50, wsX60]
set_option maxRecDepth 100000 in
theorem yCe_wsX7_rest : wsX7_rest = yC_wsX7_rest.flatten := rfl
set_option maxRecDepth 100000 in
theorem ggX7_rest_X4_copyFrom : GoodIn wsX7_rest wsX4_copyFrom := ygc yCe_wsX7_rest _ [264, 265, 266, 267, 268, 269, 270, 271, 272, 273, 274, 275, 276, 277, 278, 279, 512, 513, 514, 515, 516, 517, 518, 519, 520, 521, 522, 523, 524, 525, 526, 527, 528, 529, 530, 531, 532, 533, 534, 535, 768, 769, 1536, 1537, 1538, 1539, 1540, 1541, 1542, 1543, 1544, 1545, 1546, 1547, 1548, 1549, 1550, 1551, 1552, 1553, 1792, 1793, 1794, 1795, 1796, 2048, 2049, 2050] rfl yg_wsX4_copyFrom
set_option maxRecDepth 100000 in
theorem gX7_rest_X4_copyFrom : GoodIn wsX7_rest (wsV RX7 73 RX4 yX4_copyFrom wsX4_copyFrom) := goodIn_app (ygc yCe_wsX7_rest _ [260, 261, 262, 263] rfl rfl) ggX7_rest_X4_copyFrom
set_option maxRecDepth 100000 in
theorem ggX7_rest_X4_passDay : GoodIn wsX7_rest wsX4_passDay := ygc yCe_wsX7_rest _ [773, 774, 775, 512, 776, 777, 514, 778, 779, 263, 780, 781, 782, 783, 784, 785, 786, 787, 266, 265, 788, 789, 790, 791, 515, 268, 516, 1024, 1025, 1026, 1027, 1028, 1029, 1030, 1031, 521, 1032, 523, 524, 526, 527, 528, 1033, 1034, 1035, 1036, 279, 1037, 1038, 1039, 1040, 275, 274, 269, 517, 1041, 1042, 1043, 1044, 1045, 1536, 1537, 1538, 1539, 1540, 1541, 1542, 1543, 1544, 1545, 1546, 1547, 1548, 1549, 1550, 1551, 1552, 1553, 1792, 1793, 1794, 1795, 1796] rfl yg_wsX4_passDay
set_option maxRecDepth 100000 in
theorem gX7_rest_X4_passDay : GoodIn wsX7_rest (wsV RX7 203 RX4 yX4_passDay wsX4_passDay) := goodIn_app (ygc yCe_wsX7_rest _ [770, 771, 772, 263] rfl rfl) ggX7_rest_X4_passDay
set_option maxRecDepth 100000 in
theorem yg_wsX0_fewestVows : wsX0_fewestVows.all goodWord = true := by decide +kernel
noncomputable def yC_wsX7_plan : List (List Cond) := [[.code yX7_plan cX7_plan 4 (some .int)], wsX7_plan_r1, wsX7_plan_r2, wsX7_plan_r3, wsX70, wsX00, wsX40, wsX60]
set_option maxRecDepth 100000 in
theorem yCe_wsX7_plan : wsX7_plan = yC_wsX7_plan.flatten := rfl
set_option maxRecDepth 100000 in
theorem ggX7_plan_X0_fewestVows : GoodIn wsX7_plan wsX0_fewestVows := ygc yCe_wsX7_plan _ [262, 263, 264, 265, 266, 267, 268, 269, 270, 271, 272, 273, 274, 261, 275, 276, 277, 278, 279, 512, 513, 514, 515, 516, 517, 518, 519, 520, 521, 522, 523, 524, 525, 526, 527, 528, 529, 530, 531, 532, 533, 534, 535, 768, 769, 770, 771, 772, 773, 774, 1280, 1281, 1536, 1537, 1538, 1539, 1540, 1541, 1542, 1543, 1544, 1545, 1546, 1547, 1548, 1549, 1550, 1551, 1552, 1553, 1792, 1793, 1794] rfl yg_wsX0_fewestVows
set_option maxRecDepth 100000 in
theorem gX7_plan_X0_fewestVows : GoodIn wsX7_plan (wsV RX7 207 RX0 yX0_fewestVows wsX0_fewestVows) := goodIn_app (ygc yCe_wsX7_plan _ [258, 259, 260, 261] rfl rfl) ggX7_plan_X0_fewestVows
set_option maxRecDepth 100000 in
theorem yg_wsX0_vowOfFirstSet : wsX0_vowOfFirstSet.all goodWord = true := by decide +kernel
set_option maxRecDepth 100000 in
theorem ggX7_plan_X0_vowOfFirstSet : GoodIn wsX7_plan wsX0_vowOfFirstSet := ygc yCe_wsX7_plan _ [778, 264, 265, 772, 773, 261, 774, 277, 278, 270, 271, 272, 273, 274, 275, 276, 279, 512, 513, 514, 515, 516, 517, 518, 519, 520, 521, 522, 523, 524, 525, 526, 527, 528, 529, 530, 531, 532, 533, 534, 535, 768, 769, 770, 771, 1536, 1537, 1538, 1539, 1540, 1541, 1542, 1543, 1544, 1545, 1546, 1547, 1548, 1549, 1550, 1551, 1552, 1553, 1280, 1281, 1792, 1793, 1794] rfl yg_wsX0_vowOfFirstSet
set_option maxRecDepth 100000 in
theorem gX7_plan_X0_vowOfFirstSet : GoodIn wsX7_plan (wsV RX7 211 RX0 yX0_vowOfFirstSet wsX0_vowOfFirstSet) := goodIn_app (ygc yCe_wsX7_plan _ [775, 776, 777, 261] rfl rfl) ggX7_plan_X0_vowOfFirstSet
noncomputable def yC_wsX7_who : List (List Cond) := [[.code yX7_who cX7_who 7 (some .int)], wsX7_who_r1, wsX7_who_r2, wsX70, wsX40]
set_option maxRecDepth 100000 in
theorem yCe_wsX7_who : wsX7_who = yC_wsX7_who.flatten := rfl
set_option maxRecDepth 100000 in
theorem ggX7_who_X4_isHouse : GoodIn wsX7_who wsX4_isHouse := ygc yCe_wsX7_who _ [262, 263, 264, 265, 266, 1024, 1025, 1026, 1027, 1028, 1029, 1030, 1031, 1032, 1033, 1034, 1035, 1036, 1037, 1038, 1039, 1040, 1041] rfl yg_wsX4_isHouse
set_option maxRecDepth 100000 in
theorem gX7_who_X4_isHouse : GoodIn wsX7_who (wsV RX7 118 RX4 yX4_isHouse wsX4_isHouse) := goodIn_app (ygc yCe_wsX7_who _ [258, 259, 260, 261] rfl rfl) ggX7_who_X4_isHouse
set_option maxRecDepth 100000 in
theorem ggX7_who_X4_isDeed : GoodIn wsX7_who wsX4_isDeed := ygc yCe_wsX7_who _ [270, 271, 264, 265, 266, 1024, 1025, 1026, 1027, 1028, 1029, 1030, 1031, 1032, 1033, 1034, 1035, 1036, 1037, 1038, 1039, 1040, 1041] rfl yg_wsX4_isDeed
set_option maxRecDepth 100000 in
theorem gX7_who_X4_isDeed : GoodIn wsX7_who (wsV RX7 150 RX4 yX4_isDeed wsX4_isDeed) := goodIn_app (ygc yCe_wsX7_who _ [267, 268, 269, 261] rfl rfl) ggX7_who_X4_isDeed
set_option maxRecDepth 100000 in
theorem ggX7_who_X7_within : GoodIn wsX7_who wsX7_within := ygc yCe_wsX7_who _ [266] rfl yg_wsX7_within
set_option maxRecDepth 100000 in
theorem gX7_who_X7_within : GoodIn wsX7_who (va_wsS RX7 49 yX7_within wsX7_within) := goodIn_app (ygc yCe_wsX7_who _ [272, 264, 265] rfl rfl) ggX7_who_X7_within
set_option maxRecDepth 100000 in
theorem yg_wsX7_numberOf : wsX7_numberOf.all goodWord = true := by decide +kernel
set_option maxRecDepth 100000 in
theorem ggX7_who_X7_numberOf : GoodIn wsX7_who wsX7_numberOf := ygc yCe_wsX7_who _ [275] rfl yg_wsX7_numberOf
set_option maxRecDepth 100000 in
theorem gX7_who_X7_numberOf : GoodIn wsX7_who (va_wsS RX7 215 yX7_numberOf wsX7_numberOf) := goodIn_app (ygc yCe_wsX7_who _ [273, 274, 265] rfl rfl) ggX7_who_X7_numberOf
set_option maxRecDepth 100000 in
theorem ggX7_who_X4_broughtBy : GoodIn wsX7_who wsX4_broughtBy := ygc yCe_wsX7_who _ [279, 512, 263, 513, 514, 515, 516, 261, 517, 518, 519, 520, 521, 522, 523, 524, 525, 526, 527, 528, 529, 265, 530, 531, 532, 1024, 1025, 1026, 1027, 1028, 1029, 1030, 1031, 1032, 1033, 1034, 1035, 1036, 1037, 1038, 1039, 1040, 1041] rfl yg_wsX4_broughtBy
set_option maxRecDepth 100000 in
theorem gX7_who_X4_broughtBy : GoodIn wsX7_who (wsV RX7 219 RX4 yX4_broughtBy wsX4_broughtBy) := goodIn_app (ygc yCe_wsX7_who _ [276, 277, 278, 261] rfl rfl) ggX7_who_X4_broughtBy
set_option maxRecDepth 100000 in
theorem ggX7_who_X7_bit : GoodIn wsX7_who wsX7_bit := ygc yCe_wsX7_who _ [530] rfl yg_wsX7_bit
set_option maxRecDepth 100000 in
theorem gX7_who_X7_bit : GoodIn wsX7_who (va_wsS RX7 131 yX7_bit wsX7_bit) := goodIn_app (ygc yCe_wsX7_who _ [533, 529, 265] rfl rfl) ggX7_who_X7_bit
set_option maxRecDepth 100000 in
theorem ggX7_who_X7_withBit : GoodIn wsX7_who wsX7_withBit := ygc yCe_wsX7_who _ [532] rfl yg_wsX7_withBit
set_option maxRecDepth 100000 in
theorem gX7_who_X7_withBit : GoodIn wsX7_who (va_wsS RX7 170 yX7_withBit wsX7_withBit) := goodIn_app (ygc yCe_wsX7_who _ [534, 531, 265] rfl rfl) ggX7_who_X7_withBit
noncomputable def yC_wsX7_ways : List (List Cond) := [[.code yX7_ways cX7_ways 6 (some .int)], wsX7_ways_r1, wsX7_ways_r2, wsX70, wsX40]
set_option maxRecDepth 100000 in
theorem yCe_wsX7_ways : wsX7_ways = yC_wsX7_ways.flatten := rfl
set_option maxRecDepth 100000 in
theorem ggX7_ways_X4_isHouse : GoodIn wsX7_ways wsX4_isHouse := ygc yCe_wsX7_ways _ [262, 263, 264, 265, 266, 1024, 1025, 1026, 1027, 1028, 1029, 1030, 1031, 1032, 1033, 1034, 1035, 1036, 1037, 1038, 1039, 1040, 1041] rfl yg_wsX4_isHouse
set_option maxRecDepth 100000 in
theorem gX7_ways_X4_isHouse : GoodIn wsX7_ways (wsV RX7 118 RX4 yX4_isHouse wsX4_isHouse) := goodIn_app (ygc yCe_wsX7_ways _ [258, 259, 260, 261] rfl rfl) ggX7_ways_X4_isHouse
set_option maxRecDepth 100000 in
theorem ggX7_ways_X4_isDeed : GoodIn wsX7_ways wsX4_isDeed := ygc yCe_wsX7_ways _ [270, 271, 264, 265, 266, 1024, 1025, 1026, 1027, 1028, 1029, 1030, 1031, 1032, 1033, 1034, 1035, 1036, 1037, 1038, 1039, 1040, 1041] rfl yg_wsX4_isDeed
set_option maxRecDepth 100000 in
theorem gX7_ways_X4_isDeed : GoodIn wsX7_ways (wsV RX7 150 RX4 yX4_isDeed wsX4_isDeed) := goodIn_app (ygc yCe_wsX7_ways _ [267, 268, 269, 261] rfl rfl) ggX7_ways_X4_isDeed
set_option maxRecDepth 100000 in
theorem ggX7_ways_X7_within : GoodIn wsX7_ways wsX7_within := ygc yCe_wsX7_ways _ [266] rfl yg_wsX7_within
set_option maxRecDepth 100000 in
theorem gX7_ways_X7_within : GoodIn wsX7_ways (va_wsS RX7 49 yX7_within wsX7_within) := goodIn_app (ygc yCe_wsX7_ways _ [272, 264, 265] rfl rfl) ggX7_ways_X7_within
set_option maxRecDepth 100000 in
theorem ggX7_ways_X7_numbersOf : GoodIn wsX7_ways wsX7_numbersOf := ygc yCe_wsX7_ways _ [275] rfl yg_wsX7_numbersOf
set_option maxRecDepth 100000 in
theorem gX7_ways_X7_numbersOf : GoodIn wsX7_ways (va_wsS RX7 222 yX7_numbersOf wsX7_numbersOf) := goodIn_app (ygc yCe_wsX7_ways _ [273, 274, 265] rfl rfl) ggX7_ways_X7_numbersOf
set_option maxRecDepth 100000 in
theorem ggX7_ways_X4_broughtBy : GoodIn wsX7_ways wsX4_broughtBy := ygc yCe_wsX7_ways _ [279, 512, 263, 513, 514, 515, 516, 261, 517, 518, 519, 520, 521, 522, 523, 524, 525, 526, 527, 528, 529, 265, 530, 531, 532, 1024, 1025, 1026, 1027, 1028, 1029, 1030, 1031, 1032, 1033, 1034, 1035, 1036, 1037, 1038, 1039, 1040, 1041] rfl yg_wsX4_broughtBy
set_option maxRecDepth 100000 in
theorem gX7_ways_X4_broughtBy : GoodIn wsX7_ways (wsV RX7 219 RX4 yX4_broughtBy wsX4_broughtBy) := goodIn_app (ygc yCe_wsX7_ways _ [276, 277, 278, 261] rfl rfl) ggX7_ways_X4_broughtBy
set_option maxRecDepth 100000 in
theorem ggX7_ways_X7_bit : GoodIn wsX7_ways wsX7_bit := ygc yCe_wsX7_ways _ [530] rfl yg_wsX7_bit
set_option maxRecDepth 100000 in
theorem gX7_ways_X7_bit : GoodIn wsX7_ways (va_wsS RX7 131 yX7_bit wsX7_bit) := goodIn_app (ygc yCe_wsX7_ways _ [533, 529, 265] rfl rfl) ggX7_ways_X7_bit
noncomputable def yC_wsX7_ever : List (List Cond) := [[.code yX7_ever cX7_ever 3 (some .int)], wsX7_ever_r1, wsX7_ever_r2, wsX70, wsX40, wsX50]
set_option maxRecDepth 100000 in
theorem yCe_wsX7_ever : wsX7_ever = yC_wsX7_ever.flatten := rfl
set_option maxRecDepth 100000 in
theorem ggX7_ever_X4_isEndless : GoodIn wsX7_ever wsX4_isEndless := ygc yCe_wsX7_ever _ [264, 265, 266, 267, 268, 269, 270, 271, 263, 272, 273, 274, 275, 276, 277, 278, 279, 512, 513, 514, 515, 516, 1024, 1025, 1026, 1027, 1028, 1029, 1030, 1031, 1032, 1033, 1034, 1035, 1036, 1037, 1038, 1039, 1040, 1041, 1280, 1281, 1282, 1283, 1284] rfl yg_wsX4_isEndless
set_option maxRecDepth 100000 in
theorem gX7_ever_X4_isEndless : GoodIn wsX7_ever (wsV RX7 225 RX4 yX4_isEndless wsX4_isEndless) := goodIn_app (ygc yCe_wsX7_ever _ [260, 261, 262, 263] rfl rfl) ggX7_ever_X4_isEndless
set_option maxRecDepth 100000 in
theorem ggX7_ever_X7_withBit : GoodIn wsX7_ever wsX7_withBit := ygc yCe_wsX7_ever _ [520] rfl yg_wsX7_withBit
set_option maxRecDepth 100000 in
theorem gX7_ever_X7_withBit : GoodIn wsX7_ever (va_wsS RX7 170 yX7_withBit wsX7_withBit) := goodIn_app (ygc yCe_wsX7_ever _ [517, 518, 519] rfl rfl) ggX7_ever_X7_withBit
noncomputable def yC_wsX7_stop : List (List Cond) := [[.code yX7_stop cX7_stop 6 (some .int)], wsX7_stop_r1, wsX7_stop_r2, wsX70, wsX40, wsX50]
set_option maxRecDepth 100000 in
theorem yCe_wsX7_stop : wsX7_stop = yC_wsX7_stop.flatten := rfl
set_option maxRecDepth 100000 in
theorem ggX7_stop_X7_within : GoodIn wsX7_stop wsX7_within := ygc yCe_wsX7_stop _ [262] rfl yg_wsX7_within
set_option maxRecDepth 100000 in
theorem gX7_stop_X7_within : GoodIn wsX7_stop (va_wsS RX7 49 yX7_within wsX7_within) := goodIn_app (ygc yCe_wsX7_stop _ [259, 260, 261] rfl rfl) ggX7_stop_X7_within
set_option maxRecDepth 100000 in
theorem ggX7_stop_J6_bitCount_0f7a4 : GoodIn wsX7_stop wsJ6_bitCount_0f7a4 := ygc yCe_wsX7_stop _ [266, 267, 268, 269] rfl yg_wsJ6_bitCount_0f7a4
set_option maxRecDepth 100000 in
theorem gX7_stop_J6_bitCount_0f7a4 : GoodIn wsX7_stop (va_wsS RX7 194 yJ6_bitCount_0f7a4 wsJ6_bitCount_0f7a4) := goodIn_app (ygc yCe_wsX7_stop _ [263, 264, 265] rfl rfl) ggX7_stop_J6_bitCount_0f7a4
set_option maxRecDepth 100000 in
theorem yg_wsX4_hasEndless : wsX4_hasEndless.all goodWord = true := by decide +kernel
set_option maxRecDepth 100000 in
theorem ggX7_stop_X4_hasEndless : GoodIn wsX7_stop wsX4_hasEndless := ygc yCe_wsX7_stop _ [274, 275, 276, 277, 278, 279, 273, 512, 513, 514, 515, 516, 517, 518, 519, 520, 521, 522, 523, 524, 525, 526, 527, 528, 529, 530, 531, 1024, 1025, 1026, 1027, 1028, 1029, 1030, 1031, 1032, 1033, 1034, 1035, 1036, 1037, 1038, 1039, 1040, 1041, 1280, 1281, 1282, 1283, 1284] rfl yg_wsX4_hasEndless
set_option maxRecDepth 100000 in
theorem gX7_stop_X4_hasEndless : GoodIn wsX7_stop (wsV RX7 228 RX4 yX4_hasEndless wsX4_hasEndless) := goodIn_app (ygc yCe_wsX7_stop _ [270, 271, 272, 273] rfl rfl) ggX7_stop_X4_hasEndless
noncomputable def yC_wsX7_best : List (List Cond) := [[.code yX7_best cX7_best 8 (some .int)], wsX7_best_r1, wsX7_best_r2, wsX7_best_r3, wsX7_best_r4, wsX7_best_r5, wsX70, wsX40, wsX50, wsX60]
set_option maxRecDepth 100000 in
theorem yCe_wsX7_best : wsX7_best = yC_wsX7_best.flatten := rfl
set_option maxRecDepth 100000 in
theorem ggX7_best_X7_within : GoodIn wsX7_best wsX7_within := ygc yCe_wsX7_best _ [262] rfl yg_wsX7_within
set_option maxRecDepth 100000 in
theorem gX7_best_X7_within : GoodIn wsX7_best (va_wsS RX7 49 yX7_within wsX7_within) := goodIn_app (ygc yCe_wsX7_best _ [259, 260, 261] rfl rfl) ggX7_best_X7_within
set_option maxRecDepth 100000 in
theorem ggX7_best_X4_copyFrom : GoodIn wsX7_best wsX4_copyFrom := ygc yCe_wsX7_best _ [267, 268, 269, 270, 271, 272, 273, 274, 275, 276, 277, 278, 279, 512, 513, 514, 515, 516, 517, 518, 519, 520, 521, 522, 523, 524, 525, 526, 527, 528, 529, 530, 531, 532, 533, 534, 535, 768, 769, 770, 771, 772, 1792, 1793, 1794, 1795, 1796, 1797, 1798, 1799, 1800, 1801, 1802, 1803, 1804, 1805, 1806, 1807, 1808, 1809, 2048, 2049, 2050, 2051, 2052, 2304, 2305, 2306] rfl yg_wsX4_copyFrom
set_option maxRecDepth 100000 in
theorem gX7_best_X4_copyFrom : GoodIn wsX7_best (wsV RX7 73 RX4 yX4_copyFrom wsX4_copyFrom) := goodIn_app (ygc yCe_wsX7_best _ [263, 264, 265, 266] rfl rfl) ggX7_best_X4_copyFrom
set_option maxRecDepth 100000 in
theorem ggX7_best_X4_passDays : GoodIn wsX7_best wsX4_passDays := ygc yCe_wsX7_best _ [776, 777, 778, 779, 266, 780, 781, 782, 515, 783, 784, 517, 785, 786, 787, 788, 789, 790, 791, 1024, 1025, 1026, 269, 268, 1027, 1028, 1029, 1030, 518, 271, 519, 1031, 1032, 1033, 261, 1034, 1035, 1036, 1037, 524, 1038, 526, 527, 529, 530, 531, 1039, 1040, 1041, 1042, 514, 1043, 1044, 1045, 1046, 278, 277, 272, 520, 1047, 1280, 1281, 1282, 1283, 1792, 1793, 1794, 1795, 1796, 1797, 1798, 1799, 1800, 1801, 1802, 1803, 1804, 1805, 1806, 1807, 1808, 1809, 2048, 2049, 2050, 2051, 2052] rfl yg_wsX4_passDays
set_option maxRecDepth 100000 in
theorem gX7_best_X4_passDays : GoodIn wsX7_best (wsV RX7 200 RX4 yX4_passDays wsX4_passDays) := goodIn_app (ygc yCe_wsX7_best _ [773, 774, 775, 266] rfl rfl) ggX7_best_X4_passDays
set_option maxRecDepth 100000 in
theorem ggX7_best_X4_changeHouses : GoodIn wsX7_best wsX4_changeHouses := ygc yCe_wsX7_best _ [1287, 277, 278, 1792, 1793, 1794, 1795, 1796, 1797, 1798, 1799, 1800, 1801, 1802, 1803, 1804, 1805, 1806, 1807, 1808, 1809] rfl yg_wsX4_changeHouses
set_option maxRecDepth 100000 in
theorem gX7_best_X4_changeHouses : GoodIn wsX7_best (wsV RX7 190 RX4 yX4_changeHouses wsX4_changeHouses) := goodIn_app (ygc yCe_wsX7_best _ [1284, 1285, 1286, 266] rfl rfl) ggX7_best_X4_changeHouses
noncomputable def yC_wsX7_mean : List (List Cond) := [[.code yX7_mean cX7_mean 6 (some .long)], wsX7_mean_r1, wsX7_mean_r2, wsX70, wsX40]
set_option maxRecDepth 100000 in
theorem yCe_wsX7_mean : wsX7_mean = yC_wsX7_mean.flatten := rfl
set_option maxRecDepth 100000 in
theorem ggX7_mean_X4_isHouse : GoodIn wsX7_mean wsX4_isHouse := ygc yCe_wsX7_mean _ [265, 266, 267, 268, 269, 1024, 1025, 1026, 1027, 1028, 1029, 1030, 1031, 1032, 1033, 1034, 1035, 1036, 1037, 1038, 1039, 1040, 1041] rfl yg_wsX4_isHouse
set_option maxRecDepth 100000 in
theorem gX7_mean_X4_isHouse : GoodIn wsX7_mean (wsV RX7 118 RX4 yX4_isHouse wsX4_isHouse) := goodIn_app (ygc yCe_wsX7_mean _ [261, 262, 263, 264] rfl rfl) ggX7_mean_X4_isHouse
set_option maxRecDepth 100000 in
theorem ggX7_mean_X7_within : GoodIn wsX7_mean wsX7_within := ygc yCe_wsX7_mean _ [269] rfl yg_wsX7_within
set_option maxRecDepth 100000 in
theorem gX7_mean_X7_within : GoodIn wsX7_mean (va_wsS RX7 49 yX7_within wsX7_within) := goodIn_app (ygc yCe_wsX7_mean _ [270, 267, 268] rfl rfl) ggX7_mean_X7_within
set_option maxRecDepth 100000 in
theorem ggX7_mean_X4_habitCost : GoodIn wsX7_mean wsX4_habitCost := ygc yCe_wsX7_mean _ [274, 275, 276, 277, 278, 279, 264, 512, 513, 514, 515, 516, 268, 517, 518, 519, 520, 521, 522, 523, 524, 525, 526, 527, 528, 266, 1024, 1025, 1026, 1027, 1028, 1029, 1030, 1031, 1032, 1033, 1034, 1035, 1036, 1037, 1038, 1039, 1040, 1041] rfl yg_wsX4_habitCost
set_option maxRecDepth 100000 in
theorem gX7_mean_X4_habitCost : GoodIn wsX7_mean (wsV RX7 233 RX4 yX4_habitCost wsX4_habitCost) := goodIn_app (ygc yCe_wsX7_mean _ [271, 272, 273, 264] rfl rfl) ggX7_mean_X4_habitCost
set_option maxRecDepth 100000 in
theorem yg_wsX7_partOfFraction : wsX7_partOfFraction.all goodWord = true := by decide +kernel
set_option maxRecDepth 100000 in
theorem ggX7_mean_X7_partOfFraction : GoodIn wsX7_mean wsX7_partOfFraction := ygc yCe_wsX7_mean _ [531] rfl yg_wsX7_partOfFraction
set_option maxRecDepth 100000 in
theorem gX7_mean_X7_partOfFraction : GoodIn wsX7_mean (va_wsS RX7 238 yX7_partOfFraction wsX7_partOfFraction) := goodIn_app (ygc yCe_wsX7_mean _ [529, 530, 268] rfl rfl) ggX7_mean_X7_partOfFraction
noncomputable def yC_wsX7_luck : List (List Cond) := [[.code yX7_luck cX7_luck 10 (some .long)], wsX7_luck_r1, wsX7_luck_r2, wsX7_luck_r3, wsX70, wsX40]
set_option maxRecDepth 100000 in
theorem yCe_wsX7_luck : wsX7_luck = yC_wsX7_luck.flatten := rfl
set_option maxRecDepth 100000 in
theorem ggX7_luck_X4_isHouse : GoodIn wsX7_luck wsX4_isHouse := ygc yCe_wsX7_luck _ [263, 264, 265, 266, 267, 1280, 1281, 1282, 1283, 1284, 1285, 1286, 1287, 1288, 1289, 1290, 1291, 1292, 1293, 1294, 1295, 1296, 1297] rfl yg_wsX4_isHouse
set_option maxRecDepth 100000 in
theorem gX7_luck_X4_isHouse : GoodIn wsX7_luck (wsV RX7 118 RX4 yX4_isHouse wsX4_isHouse) := goodIn_app (ygc yCe_wsX7_luck _ [259, 260, 261, 262] rfl rfl) ggX7_luck_X4_isHouse
set_option maxRecDepth 100000 in
theorem ggX7_luck_X7_within : GoodIn wsX7_luck wsX7_within := ygc yCe_wsX7_luck _ [267] rfl yg_wsX7_within
set_option maxRecDepth 100000 in
theorem gX7_luck_X7_within : GoodIn wsX7_luck (va_wsS RX7 49 yX7_within wsX7_within) := goodIn_app (ygc yCe_wsX7_luck _ [268, 265, 266] rfl rfl) ggX7_luck_X7_within
set_option maxRecDepth 100000 in
theorem yg_wsX4_habitWeight : wsX4_habitWeight.all goodWord = true := by decide +kernel
set_option maxRecDepth 100000 in
theorem ggX7_luck_X4_habitWeight : GoodIn wsX7_luck wsX4_habitWeight := ygc yCe_wsX7_luck _ [272, 264, 273, 274, 266, 275, 1280, 1281, 1282, 1283, 1284, 1285, 1286, 1287, 1288, 1289, 1290, 1291, 1292, 1293, 1294, 1295, 1296, 1297] rfl yg_wsX4_habitWeight
set_option maxRecDepth 100000 in
theorem gX7_luck_X4_habitWeight : GoodIn wsX7_luck (wsV RX7 242 RX4 yX4_habitWeight wsX4_habitWeight) := goodIn_app (ygc yCe_wsX7_luck _ [269, 270, 271, 262] rfl rfl) ggX7_luck_X4_habitWeight
set_option maxRecDepth 100000 in
theorem yg_wsX4_canPayHabits : wsX4_canPayHabits.all goodWord = true := by decide +kernel
set_option maxRecDepth 100000 in
theorem ggX7_luck_X4_canPayHabits : GoodIn wsX7_luck wsX4_canPayHabits := ygc yCe_wsX7_luck _ [279, 264, 512, 513, 514, 274, 266, 275, 515, 516, 517, 262, 518, 273, 519, 520, 521, 522, 523, 524, 525, 526, 527, 528, 529, 530, 531, 532, 533, 534, 535, 768, 1280, 1281, 1282, 1283, 1284, 1285, 1286, 1287, 1288, 1289, 1290, 1291, 1292, 1293, 1294, 1295, 1296, 1297] rfl yg_wsX4_canPayHabits
set_option maxRecDepth 100000 in
theorem gX7_luck_X4_canPayHabits : GoodIn wsX7_luck (wsV RX7 246 RX4 yX4_canPayHabits wsX4_canPayHabits) := goodIn_app (ygc yCe_wsX7_luck _ [276, 277, 278, 262] rfl rfl) ggX7_luck_X4_canPayHabits
set_option maxRecDepth 100000 in
theorem ggX7_luck_X7_partOfFraction : GoodIn wsX7_luck wsX7_partOfFraction := ygc yCe_wsX7_luck _ [771] rfl yg_wsX7_partOfFraction
set_option maxRecDepth 100000 in
theorem gX7_luck_X7_partOfFraction : GoodIn wsX7_luck (va_wsS RX7 238 yX7_partOfFraction wsX7_partOfFraction) := goodIn_app (ygc yCe_wsX7_luck _ [769, 770, 266] rfl rfl) ggX7_luck_X7_partOfFraction
noncomputable def yC_wsX7_drift : List (List Cond) := [[.code yX7_drift cX7_drift 7 (some .int)], wsX7_drift_r1, wsX7_drift_r2, wsX7_drift_r3, wsX7_drift_r4, wsX7_drift_r5, wsX70, wsX40, wsX50, wsX60]
set_option maxRecDepth 100000 in
theorem yCe_wsX7_drift : wsX7_drift = yC_wsX7_drift.flatten := rfl
set_option maxRecDepth 100000 in
theorem ggX7_drift_X7_within : GoodIn wsX7_drift wsX7_within := ygc yCe_wsX7_drift _ [268] rfl yg_wsX7_within
set_option maxRecDepth 100000 in
theorem gX7_drift_X7_within : GoodIn wsX7_drift (va_wsS RX7 49 yX7_within wsX7_within) := goodIn_app (ygc yCe_wsX7_drift _ [265, 266, 267] rfl rfl) ggX7_drift_X7_within
set_option maxRecDepth 100000 in
theorem ggX7_drift_X4_copyFrom : GoodIn wsX7_drift wsX4_copyFrom := ygc yCe_wsX7_drift _ [273, 274, 275, 276, 277, 278, 279, 512, 513, 514, 515, 516, 517, 518, 519, 520, 521, 522, 523, 524, 525, 526, 527, 528, 529, 530, 531, 532, 533, 534, 535, 768, 769, 770, 771, 772, 773, 774, 775, 776, 777, 778, 1792, 1793, 1794, 1795, 1796, 1797, 1798, 1799, 1800, 1801, 1802, 1803, 1804, 1805, 1806, 1807, 1808, 1809, 2048, 2049, 2050, 2051, 2052, 2304, 2305, 2306] rfl yg_wsX4_copyFrom
set_option maxRecDepth 100000 in
theorem gX7_drift_X4_copyFrom : GoodIn wsX7_drift (wsV RX7 73 RX4 yX4_copyFrom wsX4_copyFrom) := goodIn_app (ygc yCe_wsX7_drift _ [269, 270, 271, 272] rfl rfl) ggX7_drift_X4_copyFrom
set_option maxRecDepth 100000 in
theorem yg_wsJ9_floorMod_7cf53 : wsJ9_floorMod_7cf53.all goodWord = true := by decide +kernel
set_option maxRecDepth 100000 in
theorem ggX7_drift_J9_floorMod_7cf53 : GoodIn wsX7_drift wsJ9_floorMod_7cf53 := ygc yCe_wsX7_drift _ [782] rfl yg_wsJ9_floorMod_7cf53
set_option maxRecDepth 100000 in
theorem gX7_drift_J9_floorMod_7cf53 : GoodIn wsX7_drift (va_wsS RX7 255 yJ9_floorMod_7cf53 wsJ9_floorMod_7cf53) := goodIn_app (ygc yCe_wsX7_drift _ [779, 780, 781] rfl rfl) ggX7_drift_J9_floorMod_7cf53
set_option maxRecDepth 100000 in
theorem yg_wsX4_vowByHabit : wsX4_vowByHabit.all goodWord = true := by decide +kernel
set_option maxRecDepth 100000 in
theorem ggX7_drift_X4_vowByHabit : GoodIn wsX7_drift wsX4_vowByHabit := ygc yCe_wsX7_drift _ [786, 519, 521, 517, 518, 787, 788, 789, 272, 790, 274, 266, 267, 268, 791, 1024, 1025, 530, 1026, 532, 533, 535, 768, 769, 1792, 1793, 1794, 1795, 1796, 1797, 1798, 1799, 1800, 1801, 1802, 1803, 1804, 1805, 1806, 1807, 1808, 1809, 2048, 2049, 2050, 2051, 2052] rfl yg_wsX4_vowByHabit
set_option maxRecDepth 100000 in
theorem gX7_drift_X4_vowByHabit : GoodIn wsX7_drift (wsV RX7 258 RX4 yX4_vowByHabit wsX4_vowByHabit) := goodIn_app (ygc yCe_wsX7_drift _ [783, 784, 785, 272] rfl rfl) ggX7_drift_X4_vowByHabit
set_option maxRecDepth 100000 in
theorem ggX7_drift_X4_passDay : GoodIn wsX7_drift wsX4_passDay := ygc yCe_wsX7_drift _ [1030, 1031, 1032, 521, 1033, 1034, 523, 1035, 1036, 272, 1037, 1038, 1039, 1040, 1041, 1042, 1043, 1044, 275, 274, 1045, 1046, 1047, 1280, 524, 277, 525, 1281, 1282, 1283, 267, 1284, 791, 1024, 1025, 530, 1026, 532, 533, 535, 768, 769, 1285, 1286, 1287, 1288, 520, 1289, 261, 262, 263, 516, 515, 278, 526, 1290, 1291, 1292, 1293, 1294, 1792, 1793, 1794, 1795, 1796, 1797, 1798, 1799, 1800, 1801, 1802, 1803, 1804, 1805, 1806, 1807, 1808, 1809, 2048, 2049, 2050, 2051, 2052] rfl yg_wsX4_passDay
set_option maxRecDepth 100000 in
theorem gX7_drift_X4_passDay : GoodIn wsX7_drift (wsV RX7 203 RX4 yX4_passDay wsX4_passDay) := goodIn_app (ygc yCe_wsX7_drift _ [1027, 1028, 1029, 272] rfl rfl) ggX7_drift_X4_passDay
noncomputable def yC_wsX7_keep : List (List Cond) := [[.code yX7_keep cX7_keep 3 (some .int)], wsX7_keep_r1, wsX7_keep_r2, wsX7_keep_r3, wsX70, wsX40, wsX50, wsX60]
set_option maxRecDepth 100000 in
theorem yCe_wsX7_keep : wsX7_keep = yC_wsX7_keep.flatten := rfl
set_option maxRecDepth 100000 in
theorem ggX7_keep_X7_within : GoodIn wsX7_keep wsX7_within := ygc yCe_wsX7_keep _ [262] rfl yg_wsX7_within
set_option maxRecDepth 100000 in
theorem gX7_keep_X7_within : GoodIn wsX7_keep (va_wsS RX7 49 yX7_within wsX7_within) := goodIn_app (ygc yCe_wsX7_keep _ [259, 260, 261] rfl rfl) ggX7_keep_X7_within
set_option maxRecDepth 100000 in
theorem ggX7_keep_X7_bit : GoodIn wsX7_keep wsX7_bit := ygc yCe_wsX7_keep _ [265] rfl yg_wsX7_bit
set_option maxRecDepth 100000 in
theorem gX7_keep_X7_bit : GoodIn wsX7_keep (va_wsS RX7 131 yX7_bit wsX7_bit) := goodIn_app (ygc yCe_wsX7_keep _ [263, 264, 261] rfl rfl) ggX7_keep_X7_bit
set_option maxRecDepth 100000 in
theorem ggX7_keep_X4_copyFrom : GoodIn wsX7_keep wsX4_copyFrom := ygc yCe_wsX7_keep _ [270, 271, 272, 273, 274, 275, 276, 277, 278, 279, 512, 513, 514, 515, 516, 517, 518, 519, 520, 521, 522, 523, 524, 525, 526, 527, 528, 529, 530, 531, 532, 533, 534, 535, 768, 769, 770, 771, 772, 773, 774, 775, 1280, 1281, 1282, 1283, 1284, 1285, 1286, 1287, 1288, 1289, 1290, 1291, 1292, 1293, 1294, 1295, 1296, 1297, 1536, 1537, 1538, 1539, 1540, 1792, 1793, 1794] rfl yg_wsX4_copyFrom
set_option maxRecDepth 100000 in
theorem gX7_keep_X4_copyFrom : GoodIn wsX7_keep (wsV RX7 73 RX4 yX4_copyFrom wsX4_copyFrom) := goodIn_app (ygc yCe_wsX7_keep _ [266, 267, 268, 269] rfl rfl) ggX7_keep_X4_copyFrom
set_option maxRecDepth 100000 in
theorem ggX7_keep_X7_withBit : GoodIn wsX7_keep wsX7_withBit := ygc yCe_wsX7_keep _ [778] rfl yg_wsX7_withBit
set_option maxRecDepth 100000 in
theorem gX7_keep_X7_withBit : GoodIn wsX7_keep (va_wsS RX7 170 yX7_withBit wsX7_withBit) := goodIn_app (ygc yCe_wsX7_keep _ [776, 777, 261] rfl rfl) ggX7_keep_X7_withBit
noncomputable def yC_wsX7_back : List (List Cond) := [[.code yX7_back cX7_back 2 (some .int)], wsX7_back_r1, wsX7_back_r2, wsX7_back_r3, wsX70, wsX40, wsX50, wsX60]
set_option maxRecDepth 100000 in
theorem yCe_wsX7_back : wsX7_back = yC_wsX7_back.flatten := rfl
set_option maxRecDepth 100000 in
theorem ggX7_back_X7_within : GoodIn wsX7_back wsX7_within := ygc yCe_wsX7_back _ [263] rfl yg_wsX7_within
set_option maxRecDepth 100000 in
theorem gX7_back_X7_within : GoodIn wsX7_back (va_wsS RX7 49 yX7_within wsX7_within) := goodIn_app (ygc yCe_wsX7_back _ [260, 261, 262] rfl rfl) ggX7_back_X7_within
set_option maxRecDepth 100000 in
theorem ggX7_back_X7_bit : GoodIn wsX7_back wsX7_bit := ygc yCe_wsX7_back _ [266] rfl yg_wsX7_bit
set_option maxRecDepth 100000 in
theorem gX7_back_X7_bit : GoodIn wsX7_back (va_wsS RX7 131 yX7_bit wsX7_bit) := goodIn_app (ygc yCe_wsX7_back _ [264, 265, 262] rfl rfl) ggX7_back_X7_bit
set_option maxRecDepth 100000 in
theorem ggX7_back_X4_copyFrom : GoodIn wsX7_back wsX4_copyFrom := ygc yCe_wsX7_back _ [271, 272, 273, 274, 275, 276, 277, 278, 279, 512, 513, 514, 515, 516, 517, 518, 519, 520, 521, 522, 523, 524, 525, 526, 527, 528, 529, 530, 531, 532, 533, 534, 535, 768, 769, 770, 771, 772, 773, 774, 775, 776, 1280, 1281, 1282, 1283, 1284, 1285, 1286, 1287, 1288, 1289, 1290, 1291, 1292, 1293, 1294, 1295, 1296, 1297, 1536, 1537, 1538, 1539, 1540, 1792, 1793, 1794] rfl yg_wsX4_copyFrom
set_option maxRecDepth 100000 in
theorem gX7_back_X4_copyFrom : GoodIn wsX7_back (wsV RX7 73 RX4 yX4_copyFrom wsX4_copyFrom) := goodIn_app (ygc yCe_wsX7_back _ [267, 268, 269, 270] rfl rfl) ggX7_back_X4_copyFrom
set_option maxRecDepth 100000 in
theorem yg_wsX7_isSheet : wsX7_isSheet.all goodWord = true := by decide +kernel
set_option maxRecDepth 100000 in
theorem ggX7_sheet_X7_isSheet : GoodIn wsX7_sheet wsX7_isSheet := goodIn_r _ [5, 6, 7, 4, 8] rfl yg_wsX7_isSheet
set_option maxRecDepth 100000 in
theorem gX7_sheet_X7_isSheet : GoodIn wsX7_sheet (va_wsS RX7 262 yX7_isSheet wsX7_isSheet) := goodIn_app (goodIn_r _ [2, 3, 4] rfl rfl) ggX7_sheet_X7_isSheet
set_option maxRecDepth 100000 in
theorem yg_wsX7_isLane : wsX7_isLane.all goodWord = true := by decide +kernel
set_option maxRecDepth 100000 in
theorem ggX7_sheet_X7_isLane : GoodIn wsX7_sheet wsX7_isLane := goodIn_r _ [11, 6, 7, 4, 8] rfl yg_wsX7_isLane
set_option maxRecDepth 100000 in
theorem gX7_sheet_X7_isLane : GoodIn wsX7_sheet (va_wsS RX7 265 yX7_isLane wsX7_isLane) := goodIn_app (goodIn_r _ [9, 10, 4] rfl rfl) ggX7_sheet_X7_isLane
set_option maxRecDepth 100000 in
theorem yg_wsX2_renew : wsX2_renew.all goodWord = true := by decide +kernel
set_option maxRecDepth 100000 in
theorem ggX7_sheet_X2_renew : GoodIn wsX7_sheet wsX2_renew := goodIn_r _ [16, 17, 18, 19, 29, 30, 31] rfl yg_wsX2_renew
set_option maxRecDepth 100000 in
theorem gX7_sheet_X2_renew : GoodIn wsX7_sheet (wsV RX7 268 RX2 yX2_renew wsX2_renew) := goodIn_app (goodIn_r _ [12, 13, 14, 15] rfl rfl) ggX7_sheet_X2_renew
set_option maxRecDepth 100000 in
theorem ggX7_lay_X7_isSheet : GoodIn wsX7_lay wsX7_isSheet := goodIn_r _ [5, 6, 7, 4, 8] rfl yg_wsX7_isSheet
set_option maxRecDepth 100000 in
theorem gX7_lay_X7_isSheet : GoodIn wsX7_lay (va_wsS RX7 262 yX7_isSheet wsX7_isSheet) := goodIn_app (goodIn_r _ [2, 3, 4] rfl rfl) ggX7_lay_X7_isSheet
set_option maxRecDepth 100000 in
theorem yg_wsX2_faultOfCells : wsX2_faultOfCells.all goodWord = true := by decide +kernel
set_option maxRecDepth 100000 in
theorem ggX7_lay_X2_faultOfCells : GoodIn wsX7_lay wsX2_faultOfCells := goodIn_r _ [13, 14, 15, 16, 17, 12, 18, 19, 7, 4, 8, 34, 35, 36] rfl yg_wsX2_faultOfCells
set_option maxRecDepth 100000 in
theorem gX7_lay_X2_faultOfCells : GoodIn wsX7_lay (wsV RX7 271 RX2 yX2_faultOfCells wsX2_faultOfCells) := goodIn_app (goodIn_r _ [9, 10, 11, 12] rfl rfl) ggX7_lay_X2_faultOfCells
set_option maxRecDepth 100000 in
theorem yg_wsX2_put : wsX2_put.all goodWord = true := by decide +kernel
set_option maxRecDepth 100000 in
theorem ggX7_lay_X2_put : GoodIn wsX7_lay wsX2_put := goodIn_r _ [23, 19, 24, 34, 35, 36] rfl yg_wsX2_put
set_option maxRecDepth 100000 in
theorem gX7_lay_X2_put : GoodIn wsX7_lay (wsV RX7 274 RX2 yX2_put wsX2_put) := goodIn_app (goodIn_r _ [20, 21, 22, 12] rfl rfl) ggX7_lay_X2_put
noncomputable def yC_wsX7_read : List (List Cond) := [[.code yX7_read cX7_read 11 (some .int)], wsX7_read_r1, wsX7_read_r2, wsX7_read_r3, wsX70, wsX40, wsX50, wsX20]
set_option maxRecDepth 100000 in
theorem yCe_wsX7_read : wsX7_read = yC_wsX7_read.flatten := rfl
set_option maxRecDepth 100000 in
theorem ggX7_read_X7_isSheet : GoodIn wsX7_read wsX7_isSheet := ygc yCe_wsX7_read _ [265, 266, 267, 264, 268] rfl yg_wsX7_isSheet
set_option maxRecDepth 100000 in
theorem gX7_read_X7_isSheet : GoodIn wsX7_read (va_wsS RX7 262 yX7_isSheet wsX7_isSheet) := goodIn_app (ygc yCe_wsX7_read _ [262, 263, 264] rfl rfl) ggX7_read_X7_isSheet
set_option maxRecDepth 100000 in
theorem ggX7_read_X7_isLane : GoodIn wsX7_read wsX7_isLane := ygc yCe_wsX7_read _ [271, 266, 267, 264, 268] rfl yg_wsX7_isLane
set_option maxRecDepth 100000 in
theorem gX7_read_X7_isLane : GoodIn wsX7_read (va_wsS RX7 265 yX7_isLane wsX7_isLane) := goodIn_app (ygc yCe_wsX7_read _ [269, 270, 264] rfl rfl) ggX7_read_X7_isLane
set_option maxRecDepth 100000 in
theorem ggX7_read_X7_within : GoodIn wsX7_read wsX7_within := ygc yCe_wsX7_read _ [268] rfl yg_wsX7_within
set_option maxRecDepth 100000 in
theorem gX7_read_X7_within : GoodIn wsX7_read (va_wsS RX7 49 yX7_within wsX7_within) := goodIn_app (ygc yCe_wsX7_read _ [266, 267, 264] rfl rfl) ggX7_read_X7_within
set_option maxRecDepth 100000 in
theorem yg_wsX2_faultOfLane : wsX2_faultOfLane.all goodWord = true := by decide +kernel
set_option maxRecDepth 100000 in
theorem ggX7_read_X2_faultOfLane : GoodIn wsX7_read wsX2_faultOfLane := ygc yCe_wsX7_read _ [276, 277, 278, 279, 512, 275, 513, 1792, 1793, 1794] rfl yg_wsX2_faultOfLane
set_option maxRecDepth 100000 in
theorem gX7_read_X2_faultOfLane : GoodIn wsX7_read (wsV RX7 277 RX2 yX2_faultOfLane wsX2_faultOfLane) := goodIn_app (ygc yCe_wsX7_read _ [272, 273, 274, 275] rfl rfl) ggX7_read_X2_faultOfLane
set_option maxRecDepth 100000 in
theorem ggX7_read_X2_faultOfCells : GoodIn wsX7_read wsX2_faultOfCells := ygc yCe_wsX7_read _ [517, 518, 278, 279, 512, 275, 513, 277, 267, 264, 268, 1792, 1793, 1794] rfl yg_wsX2_faultOfCells
set_option maxRecDepth 100000 in
theorem gX7_read_X2_faultOfCells : GoodIn wsX7_read (wsV RX7 271 RX2 yX2_faultOfCells wsX2_faultOfCells) := goodIn_app (ygc yCe_wsX7_read _ [514, 515, 516, 275] rfl rfl) ggX7_read_X2_faultOfCells
set_option maxRecDepth 100000 in
theorem yg_wsX7_vowFromCells : wsX7_vowFromCells.all goodWord = true := by decide +kernel
set_option maxRecDepth 100000 in
theorem ggX7_read_X7_vowFromCells : GoodIn wsX7_read wsX7_vowFromCells := ygc yCe_wsX7_read _ [522, 523, 524, 525, 264, 526, 257, 258, 259, 527, 528, 529, 530, 531, 532, 267, 268, 533, 534, 535, 266, 768, 769, 770, 771, 772, 773, 774, 775, 776, 777, 778, 779, 780, 781, 782, 783, 784, 785, 1024, 1025, 1026, 1027, 1028, 1029, 1030, 1031, 1032, 1280, 1281, 1282, 1283, 1284, 1285, 1286, 1287, 1288, 1289, 1290, 1291, 1292, 1293, 1294, 1295, 1296, 1297, 1536, 1537, 1538, 1539, 1540] rfl yg_wsX7_vowFromCells
set_option maxRecDepth 100000 in
theorem gX7_read_X7_vowFromCells : GoodIn wsX7_read (wsV RX7 283 RX7 yX7_vowFromCells wsX7_vowFromCells) := goodIn_app (ygc yCe_wsX7_read _ [519, 520, 521, 264] rfl rfl) ggX7_read_X7_vowFromCells
set_option maxRecDepth 100000 in
theorem yg_wsX4_allDone : wsX4_allDone.all goodWord = true := by decide +kernel
noncomputable def yC_wsX7_count : List (List Cond) := [[.code yX7_count cX7_count 2 (some .int)], wsX7_count_r1, wsX7_count_r2, wsX70, wsX40, wsX30, wsX20, wsX50]
set_option maxRecDepth 100000 in
theorem yCe_wsX7_count : wsX7_count = yC_wsX7_count.flatten := rfl
set_option maxRecDepth 100000 in
theorem ggX7_count_X4_allDone : GoodIn wsX7_count wsX4_allDone := ygc yCe_wsX7_count _ [268, 269, 1024, 1025, 1026, 1027, 1028, 1029, 1030, 1031, 1032, 1033, 1034, 1035, 1036, 1037, 1038, 1039, 1040, 1041] rfl yg_wsX4_allDone
set_option maxRecDepth 100000 in
theorem gX7_count_X4_allDone : GoodIn wsX7_count (wsV RX7 290 RX4 yX4_allDone wsX4_allDone) := goodIn_app (ygc yCe_wsX7_count _ [264, 265, 266, 267] rfl rfl) ggX7_count_X4_allDone
set_option maxRecDepth 100000 in
theorem yg_wsX4_allPurses : wsX4_allPurses.all goodWord = true := by decide +kernel
set_option maxRecDepth 100000 in
theorem ggX7_count_X4_allPurses : GoodIn wsX7_count wsX4_allPurses := ygc yCe_wsX7_count _ [273, 274, 275, 1024, 1025, 1026, 1027, 1028, 1029, 1030, 1031, 1032, 1033, 1034, 1035, 1036, 1037, 1038, 1039, 1040, 1041] rfl yg_wsX4_allPurses
set_option maxRecDepth 100000 in
theorem gX7_count_X4_allPurses : GoodIn wsX7_count (wsV RX7 293 RX4 yX4_allPurses wsX4_allPurses) := goodIn_app (ygc yCe_wsX7_count _ [270, 271, 272, 267] rfl rfl) ggX7_count_X4_allPurses
set_option maxRecDepth 100000 in
theorem ggX7_count_J6_bitCount_0f7a4 : GoodIn wsX7_count wsJ6_bitCount_0f7a4 := ygc yCe_wsX7_count _ [279, 512, 513, 514] rfl yg_wsJ6_bitCount_0f7a4
set_option maxRecDepth 100000 in
theorem gX7_count_J6_bitCount_0f7a4 : GoodIn wsX7_count (va_wsS RX7 194 yJ6_bitCount_0f7a4 wsJ6_bitCount_0f7a4) := goodIn_app (ygc yCe_wsX7_count _ [276, 277, 278] rfl rfl) ggX7_count_J6_bitCount_0f7a4
set_option maxRecDepth 100000 in
theorem ggX7_count_X2_isNothing : GoodIn wsX7_count wsX2_isNothing := ygc yCe_wsX7_count _ [519, 520, 1536, 1537, 1538] rfl yg_wsX2_isNothing
set_option maxRecDepth 100000 in
theorem gX7_count_X2_isNothing : GoodIn wsX7_count (wsV RX7 296 RX2 yX2_isNothing wsX2_isNothing) := goodIn_app (ygc yCe_wsX7_count _ [515, 516, 517, 518] rfl rfl) ggX7_count_X2_isNothing
set_option maxRecDepth 100000 in
theorem yg_wsX5_manyForEver : wsX5_manyForEver.all goodWord = true := by decide +kernel
set_option maxRecDepth 100000 in
theorem ggX7_count_X5_manyForEver : GoodIn wsX7_count wsX5_manyForEver := ygc yCe_wsX7_count _ [525, 526, 527, 1792, 1793, 1794, 1795, 1796] rfl yg_wsX5_manyForEver
set_option maxRecDepth 100000 in
theorem gX7_count_X5_manyForEver : GoodIn wsX7_count (wsV RX7 301 RX5 yX5_manyForEver wsX5_manyForEver) := goodIn_app (ygc yCe_wsX7_count _ [521, 522, 523, 524] rfl rfl) ggX7_count_X5_manyForEver
set_option maxRecDepth 100000 in
theorem yg_wsX7_vows : wsX7_vows.all goodWord = true := by decide +kernel
noncomputable def yC_wsX7_vowFromCells : List (List Cond) := [[.code yX7_vowFromCells cX7_vowFromCells 3 (some .int)], wsX7_vowFromCells_r1, wsX7_vowFromCells_r2, wsX70, wsX40, wsX50]
set_option maxRecDepth 100000 in
theorem yCe_wsX7_vowFromCells : wsX7_vowFromCells = yC_wsX7_vowFromCells.flatten := rfl
set_option maxRecDepth 100000 in
theorem ggX7_vowFromCells_X7_vows : GoodIn wsX7_vowFromCells wsX7_vows := ygc yCe_wsX7_vowFromCells _ [260, 261, 262, 263, 264, 265, 266, 267, 268, 269, 270, 259, 271, 272, 273, 274, 275, 276, 277, 278, 279, 512, 513, 514, 515, 516, 517, 518, 519, 520, 521, 522, 523, 524, 525, 768, 769, 770, 771, 772, 773, 774, 775, 776, 1024, 1025, 1026, 1027, 1028, 1029, 1030, 1031, 1032, 1033, 1034, 1035, 1036, 1037, 1038, 1039, 1040, 1041, 1280, 1281, 1282, 1283, 1284] rfl yg_wsX7_vows
set_option maxRecDepth 100000 in
theorem gX7_vowFromCells_X7_vows : GoodIn wsX7_vowFromCells (wsV RX7 304 RX7 yX7_vows wsX7_vows) := goodIn_app (ygc yCe_wsX7_vowFromCells _ [256, 257, 258, 259] rfl rfl) ggX7_vowFromCells_X7_vows
set_option maxRecDepth 100000 in
theorem ggX7_isKind_X7_within : GoodIn wsX7_isKind wsX7_within := goodIn_r _ [4] rfl yg_wsX7_within
set_option maxRecDepth 100000 in
theorem gX7_isKind_X7_within : GoodIn wsX7_isKind (va_wsS RX7 49 yX7_within wsX7_within) := goodIn_app (goodIn_r _ [1, 2, 3] rfl rfl) ggX7_isKind_X7_within
set_option maxRecDepth 100000 in
theorem ggX7_isDepth_X7_within : GoodIn wsX7_isDepth wsX7_within := goodIn_r _ [4] rfl yg_wsX7_within
set_option maxRecDepth 100000 in
theorem gX7_isDepth_X7_within : GoodIn wsX7_isDepth (va_wsS RX7 49 yX7_within wsX7_within) := goodIn_app (goodIn_r _ [1, 2, 3] rfl rfl) ggX7_isDepth_X7_within
set_option maxRecDepth 100000 in
theorem ggX7_isSheet_X7_within : GoodIn wsX7_isSheet wsX7_within := goodIn_r _ [4] rfl yg_wsX7_within
set_option maxRecDepth 100000 in
theorem gX7_isSheet_X7_within : GoodIn wsX7_isSheet (va_wsS RX7 49 yX7_within wsX7_within) := goodIn_app (goodIn_r _ [1, 2, 3] rfl rfl) ggX7_isSheet_X7_within
set_option maxRecDepth 100000 in
theorem ggX7_isLane_X7_within : GoodIn wsX7_isLane wsX7_within := goodIn_r _ [4] rfl yg_wsX7_within
set_option maxRecDepth 100000 in
theorem gX7_isLane_X7_within : GoodIn wsX7_isLane (va_wsS RX7 49 yX7_within wsX7_within) := goodIn_app (goodIn_r _ [1, 2, 3] rfl rfl) ggX7_isLane_X7_within
set_option maxRecDepth 100000 in
theorem yg_wsX8_firstDraft : wsX8_firstDraft.all goodWord = true := by decide +kernel
noncomputable def yC_wsX8_init : List (List Cond) := [[.code yX8_init cX8_init 2 none], wsX8_init_r1, wsX8_init_r2, wsX80]
set_option maxRecDepth 100000 in
theorem yCe_wsX8_init : wsX8_init = yC_wsX8_init.flatten := rfl
set_option maxRecDepth 100000 in
theorem ggX8_init_X8_firstDraft : GoodIn wsX8_init wsX8_firstDraft := ygc yCe_wsX8_init _ [279, 265, 267, 512, 513, 514, 515, 516, 517, 768, 769, 770, 771, 772, 773, 774, 775, 776, 777, 778, 779, 780, 781, 782, 783, 784, 785, 786, 787, 788, 789, 790, 791, 792, 793, 794, 795, 796, 797, 798, 799, 800] rfl yg_wsX8_firstDraft
set_option maxRecDepth 100000 in
theorem gX8_init_X8_firstDraft : GoodIn wsX8_init (wsV RX8 53 RX8 yX8_firstDraft wsX8_firstDraft) := goodIn_app (ygc yCe_wsX8_init _ [275, 276, 277, 278] rfl rfl) ggX8_init_X8_firstDraft
set_option maxRecDepth 100000 in
theorem yg_wsX8_keepDraft : wsX8_keepDraft.all goodWord = true := by decide +kernel
set_option maxRecDepth 100000 in
theorem ggX8_init_X8_keepDraft : GoodIn wsX8_init wsX8_keepDraft := ygc yCe_wsX8_init _ [521, 260, 265, 512, 522, 513, 523, 515, 524, 264, 266, 263, 768, 769, 770, 771, 772, 773, 774, 775, 776, 777, 778, 779, 780, 781, 782, 783, 784, 785, 786, 787, 788, 789, 790, 791, 792, 793, 794, 795, 796, 797, 798, 799, 800] rfl yg_wsX8_keepDraft
set_option maxRecDepth 100000 in
theorem gX8_init_X8_keepDraft : GoodIn wsX8_init (wsV RX8 56 RX8 yX8_keepDraft wsX8_keepDraft) := goodIn_app (ygc yCe_wsX8_init _ [518, 519, 520, 278] rfl rfl) ggX8_init_X8_keepDraft
set_option maxRecDepth 100000 in
theorem yg_wsX8_in : wsX8_in.all goodWord = true := by decide +kernel
noncomputable def yC_wsX8_feed : List (List Cond) := [[.code yX8_feed cX8_feed 2 (some .int)], [.constantLong RX8 88 (127), .fieldLink RX8 94 "VowTerraceModel" "taped" "I", .fieldLink RX8 32 "VowTerraceModel" "tape" "[I", .methodLink RX8 90 yX8_in, .static yX8_in, .initialized RX8, .code yX8_in cX8_in 6 (some .boolean)], wsX80]
set_option maxRecDepth 100000 in
theorem yCe_wsX8_feed : wsX8_feed = yC_wsX8_feed.flatten := rfl
set_option maxRecDepth 100000 in
theorem ggX8_feed_X8_in : GoodIn wsX8_feed wsX8_in := ygc yCe_wsX8_feed _ [262] rfl yg_wsX8_in
set_option maxRecDepth 100000 in
theorem gX8_feed_X8_in : GoodIn wsX8_feed (va_wsS RX8 90 yX8_in wsX8_in) := goodIn_app (ygc yCe_wsX8_feed _ [259, 260, 261] rfl rfl) ggX8_feed_X8_in
set_option maxRecDepth 100000 in
theorem ggX8_end_X8_in : GoodIn wsX8_end wsX8_in := goodIn_r _ [5] rfl yg_wsX8_in
set_option maxRecDepth 100000 in
theorem gX8_end_X8_in : GoodIn wsX8_end (va_wsS RX8 90 yX8_in wsX8_in) := goodIn_app (goodIn_r _ [2, 3, 4] rfl rfl) ggX8_end_X8_in
set_option maxRecDepth 100000 in
theorem yg_wsX8_look : wsX8_look.all goodWord = true := by decide +kernel
noncomputable def yC_wsX8_is : List (List Cond) := [[.code yX8_is cX8_is 5 (some .boolean)], [.fieldLink RX8 106 "VowTerraceModel" "pos" "I", .fieldLink RX8 100 "VowTerraceModel" "from" "I", .methodLink RX8 109 yX8_look, .instanceMethod yX8_look, .selects RX8 yX8_look yX8_look, .initialized RX8, .code yX8_look cX8_look 2 (some .int), .fieldLink RX8 94 "VowTerraceModel" "taped" "I", .fieldLink RX8 32 "VowTerraceModel" "tape" "[I"], wsX80]
set_option maxRecDepth 100000 in
theorem yCe_wsX8_is : wsX8_is = yC_wsX8_is.flatten := rfl
set_option maxRecDepth 100000 in
theorem ggX8_is_X8_look : GoodIn wsX8_is wsX8_look := ygc yCe_wsX8_is _ [262, 263, 264, 512, 513, 514, 515, 516, 517, 518, 519, 520, 521, 522, 523, 524, 525, 526, 527, 528, 529, 530, 531, 532, 533, 534, 535, 536, 537, 538, 539, 540, 541, 542, 543, 544] rfl yg_wsX8_look
set_option maxRecDepth 100000 in
theorem gX8_is_X8_look : GoodIn wsX8_is (wsV RX8 109 RX8 yX8_look wsX8_look) := goodIn_app (ygc yCe_wsX8_is _ [258, 259, 260, 261] rfl rfl) ggX8_is_X8_look
noncomputable def yC_wsX8_ends : List (List Cond) := [[.code yX8_ends cX8_ends 4 (some .boolean)], [.fieldLink RX8 100 "VowTerraceModel" "from" "I", .methodLink RX8 109 yX8_look, .instanceMethod yX8_look, .selects RX8 yX8_look yX8_look, .initialized RX8, .code yX8_look cX8_look 2 (some .int), .fieldLink RX8 94 "VowTerraceModel" "taped" "I", .fieldLink RX8 32 "VowTerraceModel" "tape" "[I"], wsX80]
set_option maxRecDepth 100000 in
theorem yCe_wsX8_ends : wsX8_ends = yC_wsX8_ends.flatten := rfl
set_option maxRecDepth 100000 in
theorem ggX8_ends_X8_look : GoodIn wsX8_ends wsX8_look := ygc yCe_wsX8_ends _ [261, 262, 263, 512, 513, 514, 515, 516, 517, 518, 519, 520, 521, 522, 523, 524, 525, 526, 527, 528, 529, 530, 531, 532, 533, 534, 535, 536, 537, 538, 539, 540, 541, 542, 543, 544] rfl yg_wsX8_look
set_option maxRecDepth 100000 in
theorem gX8_ends_X8_look : GoodIn wsX8_ends (wsV RX8 109 RX8 yX8_look wsX8_look) := goodIn_app (ygc yCe_wsX8_ends _ [257, 258, 259, 260] rfl rfl) ggX8_ends_X8_look
set_option maxRecDepth 100000 in
theorem yg_wsX8_is : wsX8_is.all goodWord = true := by decide +kernel
noncomputable def yC_wsX8_ofHouses : List (List Cond) := [[.code yX8_ofHouses cX8_ofHouses 1 (some .int)], [.methodLink RX8 113 yX8_is, .instanceMethod yX8_is, .selects RX8 yX8_is yX8_is, .initialized RX8, .code yX8_is cX8_is 5 (some .boolean), .fieldLink RX8 106 "VowTerraceModel" "pos" "I", .fieldLink RX8 100 "VowTerraceModel" "from" "I", .methodLink RX8 109 yX8_look, .instanceMethod yX8_look, .selects RX8 yX8_look yX8_look, .code yX8_look cX8_look 2 (some .int), .fieldLink RX8 94 "VowTerraceModel" "taped" "I", .fieldLink RX8 32 "VowTerraceModel" "tape" "[I", .methodLink RX8 117 yX8_ends, .instanceMethod yX8_ends, .selects RX8 yX8_ends yX8_ends, .code yX8_ends cX8_ends 4 (some .boolean)], wsX80]
set_option maxRecDepth 100000 in
theorem yCe_wsX8_ofHouses : wsX8_ofHouses = yC_wsX8_ofHouses.flatten := rfl
set_option maxRecDepth 100000 in
theorem ggX8_ofHouses_X8_is : GoodIn wsX8_ofHouses wsX8_is := ygc yCe_wsX8_ofHouses _ [260, 261, 262, 263, 264, 265, 259, 266, 267, 268, 512, 513, 514, 515, 516, 517, 518, 519, 520, 521, 522, 523, 524, 525, 526, 527, 528, 529, 530, 531, 532, 533, 534, 535, 536, 537, 538, 539, 540, 541, 542, 543, 544] rfl yg_wsX8_is
set_option maxRecDepth 100000 in
theorem gX8_ofHouses_X8_is : GoodIn wsX8_ofHouses (wsV RX8 113 RX8 yX8_is wsX8_is) := goodIn_app (ygc yCe_wsX8_ofHouses _ [256, 257, 258, 259] rfl rfl) ggX8_ofHouses_X8_is
set_option maxRecDepth 100000 in
theorem yg_wsX8_ends : wsX8_ends.all goodWord = true := by decide +kernel
set_option maxRecDepth 100000 in
theorem ggX8_ofHouses_X8_ends : GoodIn wsX8_ofHouses wsX8_ends := ygc yCe_wsX8_ofHouses _ [272, 262, 263, 264, 265, 259, 266, 267, 268, 512, 513, 514, 515, 516, 517, 518, 519, 520, 521, 522, 523, 524, 525, 526, 527, 528, 529, 530, 531, 532, 533, 534, 535, 536, 537, 538, 539, 540, 541, 542, 543, 544] rfl yg_wsX8_ends
set_option maxRecDepth 100000 in
theorem gX8_ofHouses_X8_ends : GoodIn wsX8_ofHouses (wsV RX8 117 RX8 yX8_ends wsX8_ends) := goodIn_app (ygc yCe_wsX8_ofHouses _ [269, 270, 271, 259] rfl rfl) ggX8_ofHouses_X8_ends
noncomputable def yC_wsX8_lineNow : List (List Cond) := [[.code yX8_lineNow cX8_lineNow 1 (some .int)], [.methodLink RX8 113 yX8_is, .instanceMethod yX8_is, .selects RX8 yX8_is yX8_is, .initialized RX8, .code yX8_is cX8_is 5 (some .boolean), .fieldLink RX8 106 "VowTerraceModel" "pos" "I", .fieldLink RX8 100 "VowTerraceModel" "from" "I", .methodLink RX8 109 yX8_look, .instanceMethod yX8_look, .selects RX8 yX8_look yX8_look, .code yX8_look cX8_look 2 (some .int), .fieldLink RX8 94 "VowTerraceModel" "taped" "I", .fieldLink RX8 32 "VowTerraceModel" "tape" "[I", .methodLink RX8 117 yX8_ends, .instanceMethod yX8_ends, .selects RX8 yX8_ends yX8_ends, .code yX8_ends cX8_ends 4 (some .boolean), .methodLink RX8 121 yX8_ofHouses, .instanceMethod yX8_ofHouses, .selects RX8 yX8_ofHouses yX8_ofHouses, .code yX8_ofHouses cX8_ofHouses 1 (some .int)], wsX80]
set_option maxRecDepth 100000 in
theorem yCe_wsX8_lineNow : wsX8_lineNow = yC_wsX8_lineNow.flatten := rfl
set_option maxRecDepth 100000 in
theorem ggX8_lineNow_X8_is : GoodIn wsX8_lineNow wsX8_is := ygc yCe_wsX8_lineNow _ [260, 261, 262, 263, 264, 265, 259, 266, 267, 268, 512, 513, 514, 515, 516, 517, 518, 519, 520, 521, 522, 523, 524, 525, 526, 527, 528, 529, 530, 531, 532, 533, 534, 535, 536, 537, 538, 539, 540, 541, 542, 543, 544] rfl yg_wsX8_is
set_option maxRecDepth 100000 in
theorem gX8_lineNow_X8_is : GoodIn wsX8_lineNow (wsV RX8 113 RX8 yX8_is wsX8_is) := goodIn_app (ygc yCe_wsX8_lineNow _ [256, 257, 258, 259] rfl rfl) ggX8_lineNow_X8_is
set_option maxRecDepth 100000 in
theorem ggX8_lineNow_X8_ends : GoodIn wsX8_lineNow wsX8_ends := ygc yCe_wsX8_lineNow _ [272, 262, 263, 264, 265, 259, 266, 267, 268, 512, 513, 514, 515, 516, 517, 518, 519, 520, 521, 522, 523, 524, 525, 526, 527, 528, 529, 530, 531, 532, 533, 534, 535, 536, 537, 538, 539, 540, 541, 542, 543, 544] rfl yg_wsX8_ends
set_option maxRecDepth 100000 in
theorem gX8_lineNow_X8_ends : GoodIn wsX8_lineNow (wsV RX8 117 RX8 yX8_ends wsX8_ends) := goodIn_app (ygc yCe_wsX8_lineNow _ [269, 270, 271, 259] rfl rfl) ggX8_lineNow_X8_ends
set_option maxRecDepth 100000 in
theorem yg_wsX8_ofHouses : wsX8_ofHouses.all goodWord = true := by decide +kernel
set_option maxRecDepth 100000 in
theorem ggX8_lineNow_X8_ofHouses : GoodIn wsX8_lineNow wsX8_ofHouses := ygc yCe_wsX8_lineNow _ [276, 256, 257, 258, 259, 260, 261, 262, 263, 264, 265, 266, 267, 268, 269, 270, 271, 272, 512, 513, 514, 515, 516, 517, 518, 519, 520, 521, 522, 523, 524, 525, 526, 527, 528, 529, 530, 531, 532, 533, 534, 535, 536, 537, 538, 539, 540, 541, 542, 543, 544] rfl yg_wsX8_ofHouses
set_option maxRecDepth 100000 in
theorem gX8_lineNow_X8_ofHouses : GoodIn wsX8_lineNow (wsV RX8 121 RX8 yX8_ofHouses wsX8_ofHouses) := goodIn_app (ygc yCe_wsX8_lineNow _ [273, 274, 275, 259] rfl rfl) ggX8_lineNow_X8_ofHouses
noncomputable def yC_wsX8_kindNow : List (List Cond) := [[.code yX8_kindNow cX8_kindNow 1 (some .int)], [.methodLink RX8 113 yX8_is, .instanceMethod yX8_is, .selects RX8 yX8_is yX8_is, .initialized RX8, .code yX8_is cX8_is 5 (some .boolean), .fieldLink RX8 106 "VowTerraceModel" "pos" "I", .fieldLink RX8 100 "VowTerraceModel" "from" "I", .methodLink RX8 109 yX8_look, .instanceMethod yX8_look, .selects RX8 yX8_look yX8_look, .code yX8_look cX8_look 2 (some .int), .fieldLink RX8 94 "VowTerraceModel" "taped" "I", .fieldLink RX8 32 "VowTerraceModel" "tape" "[I", .methodLink RX8 117 yX8_ends, .instanceMethod yX8_ends, .selects RX8 yX8_ends yX8_ends, .code yX8_ends cX8_ends 4 (some .boolean)], wsX80]
set_option maxRecDepth 100000 in
theorem yCe_wsX8_kindNow : wsX8_kindNow = yC_wsX8_kindNow.flatten := rfl
set_option maxRecDepth 100000 in
theorem ggX8_kindNow_X8_is : GoodIn wsX8_kindNow wsX8_is := ygc yCe_wsX8_kindNow _ [260, 261, 262, 263, 264, 265, 259, 266, 267, 268, 512, 513, 514, 515, 516, 517, 518, 519, 520, 521, 522, 523, 524, 525, 526, 527, 528, 529, 530, 531, 532, 533, 534, 535, 536, 537, 538, 539, 540, 541, 542, 543, 544] rfl yg_wsX8_is
set_option maxRecDepth 100000 in
theorem gX8_kindNow_X8_is : GoodIn wsX8_kindNow (wsV RX8 113 RX8 yX8_is wsX8_is) := goodIn_app (ygc yCe_wsX8_kindNow _ [256, 257, 258, 259] rfl rfl) ggX8_kindNow_X8_is
set_option maxRecDepth 100000 in
theorem ggX8_kindNow_X8_ends : GoodIn wsX8_kindNow wsX8_ends := ygc yCe_wsX8_kindNow _ [272, 262, 263, 264, 265, 259, 266, 267, 268, 512, 513, 514, 515, 516, 517, 518, 519, 520, 521, 522, 523, 524, 525, 526, 527, 528, 529, 530, 531, 532, 533, 534, 535, 536, 537, 538, 539, 540, 541, 542, 543, 544] rfl yg_wsX8_ends
set_option maxRecDepth 100000 in
theorem gX8_kindNow_X8_ends : GoodIn wsX8_kindNow (wsV RX8 117 RX8 yX8_ends wsX8_ends) := goodIn_app (ygc yCe_wsX8_kindNow _ [269, 270, 271, 259] rfl rfl) ggX8_kindNow_X8_ends
noncomputable def yC_wsX8_next : List (List Cond) := [[.code yX8_next cX8_next 2 none], [.fieldLink RX8 97 "VowTerraceModel" "fault" "I", .fieldLink RX8 106 "VowTerraceModel" "pos" "I", .fieldLink RX8 100 "VowTerraceModel" "from" "I", .fieldLink RX8 125 "VowTerraceModel" "sort" "I", .constantLong RX8 128 (97), .constantLong RX8 130 (122), .constantLong RX8 132 (48), .constantLong RX8 134 (57), .fieldLink RX8 136 "VowTerraceModel" "value" "I", .methodLink RX8 109 yX8_look, .instanceMethod yX8_look, .selects RX8 yX8_look yX8_look, .initialized RX8, .code yX8_look cX8_look 2 (some .int), .fieldLink RX8 94 "VowTerraceModel" "taped" "I", .fieldLink RX8 32 "VowTerraceModel" "tape" "[I", .methodLink RX8 90 yX8_in, .static yX8_in, .code yX8_in cX8_in 6 (some .boolean), .methodLink RX8 139 yX8_needs, .instanceMethod yX8_needs, .selects RX8 yX8_needs yX8_needs, .code yX8_needs cX8_needs 3 none, .fieldLink RX8 103 "VowTerraceModel" "wrongAt" "I"], wsX80]
set_option maxRecDepth 100000 in
theorem yCe_wsX8_next : wsX8_next = yC_wsX8_next.flatten := rfl
set_option maxRecDepth 100000 in
theorem ggX8_next_X8_look : GoodIn wsX8_next wsX8_look := ygc yCe_wsX8_next _ [269, 270, 271, 512, 513, 514, 515, 516, 517, 518, 519, 520, 521, 522, 523, 524, 525, 526, 527, 528, 529, 530, 531, 532, 533, 534, 535, 536, 537, 538, 539, 540, 541, 542, 543, 544] rfl yg_wsX8_look
set_option maxRecDepth 100000 in
theorem gX8_next_X8_look : GoodIn wsX8_next (wsV RX8 109 RX8 yX8_look wsX8_look) := goodIn_app (ygc yCe_wsX8_next _ [265, 266, 267, 268] rfl rfl) ggX8_next_X8_look
set_option maxRecDepth 100000 in
theorem ggX8_next_X8_in : GoodIn wsX8_next wsX8_in := ygc yCe_wsX8_next _ [274] rfl yg_wsX8_in
set_option maxRecDepth 100000 in
theorem gX8_next_X8_in : GoodIn wsX8_next (va_wsS RX8 90 yX8_in wsX8_in) := goodIn_app (ygc yCe_wsX8_next _ [272, 273, 268] rfl rfl) ggX8_next_X8_in
set_option maxRecDepth 100000 in
theorem yg_wsX8_needs : wsX8_needs.all goodWord = true := by decide +kernel
set_option maxRecDepth 100000 in
theorem ggX8_next_X8_needs : GoodIn wsX8_next wsX8_needs := ygc yCe_wsX8_next _ [278, 256, 258, 279, 512, 513, 514, 515, 516, 517, 518, 519, 520, 521, 522, 523, 524, 525, 526, 527, 528, 529, 530, 531, 532, 533, 534, 535, 536, 537, 538, 539, 540, 541, 542, 543, 544] rfl yg_wsX8_needs
set_option maxRecDepth 100000 in
theorem gX8_next_X8_needs : GoodIn wsX8_next (wsV RX8 139 RX8 yX8_needs wsX8_needs) := goodIn_app (ygc yCe_wsX8_next _ [275, 276, 277, 268] rfl rfl) ggX8_next_X8_needs
noncomputable def yC_wsX8_looked : List (List Cond) := [[.code yX8_looked cX8_looked 3 (some .int)], [.fieldLink RX8 97 "VowTerraceModel" "fault" "I", .fieldLink RX8 125 "VowTerraceModel" "sort" "I", .fieldLink RX8 136 "VowTerraceModel" "value" "I", .methodLink RX8 139 yX8_needs, .instanceMethod yX8_needs, .selects RX8 yX8_needs yX8_needs, .initialized RX8, .code yX8_needs cX8_needs 3 none, .fieldLink RX8 100 "VowTerraceModel" "from" "I", .fieldLink RX8 103 "VowTerraceModel" "wrongAt" "I", .methodLink RX8 90 yX8_in, .static yX8_in, .code yX8_in cX8_in 6 (some .boolean)], wsX80]
set_option maxRecDepth 100000 in
theorem yCe_wsX8_looked : wsX8_looked = yC_wsX8_looked.flatten := rfl
set_option maxRecDepth 100000 in
theorem ggX8_looked_X8_needs : GoodIn wsX8_looked wsX8_needs := ygc yCe_wsX8_looked _ [263, 256, 264, 265, 512, 513, 514, 515, 516, 517, 518, 519, 520, 521, 522, 523, 524, 525, 526, 527, 528, 529, 530, 531, 532, 533, 534, 535, 536, 537, 538, 539, 540, 541, 542, 543, 544] rfl yg_wsX8_needs
set_option maxRecDepth 100000 in
theorem gX8_looked_X8_needs : GoodIn wsX8_looked (wsV RX8 139 RX8 yX8_needs wsX8_needs) := goodIn_app (ygc yCe_wsX8_looked _ [259, 260, 261, 262] rfl rfl) ggX8_looked_X8_needs
set_option maxRecDepth 100000 in
theorem ggX8_looked_X8_in : GoodIn wsX8_looked wsX8_in := ygc yCe_wsX8_looked _ [268] rfl yg_wsX8_in
set_option maxRecDepth 100000 in
theorem gX8_looked_X8_in : GoodIn wsX8_looked (va_wsS RX8 90 yX8_in wsX8_in) := goodIn_app (ygc yCe_wsX8_looked _ [266, 267, 262] rfl rfl) ggX8_looked_X8_in
set_option maxRecDepth 100000 in
theorem yg_wsX8_looked : wsX8_looked.all goodWord = true := by decide +kernel
noncomputable def yC_wsX8_readNumber : List (List Cond) := [[.code yX8_readNumber cX8_readNumber 4 (some .int)], wsX8_readNumber_r1, wsX8_readNumber_r2, wsX80]
set_option maxRecDepth 100000 in
theorem yCe_wsX8_readNumber : wsX8_readNumber = yC_wsX8_readNumber.flatten := rfl
set_option maxRecDepth 100000 in
theorem ggX8_readNumber_X8_looked : GoodIn wsX8_readNumber wsX8_looked := ygc yCe_wsX8_readNumber _ [260, 261, 262, 263, 264, 265, 266, 259, 267, 268, 269, 270, 271, 272, 768, 769, 770, 771, 772, 773, 774, 775, 776, 777, 778, 779, 780, 781, 782, 783, 784, 785, 786, 787, 788, 789, 790, 791, 792, 793, 794, 795, 796, 797, 798, 799, 800] rfl yg_wsX8_looked
set_option maxRecDepth 100000 in
theorem gX8_readNumber_X8_looked : GoodIn wsX8_readNumber (wsV RX8 143 RX8 yX8_looked wsX8_looked) := goodIn_app (ygc yCe_wsX8_readNumber _ [256, 257, 258, 259] rfl rfl) ggX8_readNumber_X8_looked
set_option maxRecDepth 100000 in
theorem yg_wsX8_next : wsX8_next.all goodWord = true := by decide +kernel
set_option maxRecDepth 100000 in
theorem ggX8_readNumber_X8_next : GoodIn wsX8_readNumber wsX8_next := ygc yCe_wsX8_readNumber _ [276, 261, 277, 268, 262, 278, 279, 512, 513, 263, 514, 515, 516, 259, 517, 518, 519, 270, 271, 272, 264, 265, 266, 267, 269, 768, 769, 770, 771, 772, 773, 774, 775, 776, 777, 778, 779, 780, 781, 782, 783, 784, 785, 786, 787, 788, 789, 790, 791, 792, 793, 794, 795, 796, 797, 798, 799, 800] rfl yg_wsX8_next
set_option maxRecDepth 100000 in
theorem gX8_readNumber_X8_next : GoodIn wsX8_readNumber (wsV RX8 147 RX8 yX8_next wsX8_next) := goodIn_app (ygc yCe_wsX8_readNumber _ [273, 274, 275, 259] rfl rfl) ggX8_readNumber_X8_next
noncomputable def yC_wsX8_lookedHouse : List (List Cond) := [[.code yX8_lookedHouse cX8_lookedHouse 2 (some .int)], [.fieldLink RX8 97 "VowTerraceModel" "fault" "I", .fieldLink RX8 73 "VowTerraceModel" "highestHouse" "I", .methodLink RX8 143 yX8_looked, .instanceMethod yX8_looked, .selects RX8 yX8_looked yX8_looked, .initialized RX8, .code yX8_looked cX8_looked 3 (some .int), .fieldLink RX8 125 "VowTerraceModel" "sort" "I", .fieldLink RX8 136 "VowTerraceModel" "value" "I", .methodLink RX8 139 yX8_needs, .instanceMethod yX8_needs, .selects RX8 yX8_needs yX8_needs, .code yX8_needs cX8_needs 3 none, .fieldLink RX8 100 "VowTerraceModel" "from" "I", .fieldLink RX8 103 "VowTerraceModel" "wrongAt" "I", .methodLink RX8 90 yX8_in, .static yX8_in, .code yX8_in cX8_in 6 (some .boolean)], wsX80]
set_option maxRecDepth 100000 in
theorem yCe_wsX8_lookedHouse : wsX8_lookedHouse = yC_wsX8_lookedHouse.flatten := rfl
set_option maxRecDepth 100000 in
theorem ggX8_lookedHouse_X8_looked : GoodIn wsX8_lookedHouse wsX8_looked := ygc yCe_wsX8_lookedHouse _ [262, 256, 263, 264, 265, 266, 267, 261, 268, 269, 270, 271, 272, 273, 512, 513, 514, 515, 516, 517, 518, 519, 520, 521, 522, 523, 524, 525, 526, 527, 528, 529, 530, 531, 532, 533, 534, 535, 536, 537, 538, 539, 540, 541, 542, 543, 544] rfl yg_wsX8_looked
set_option maxRecDepth 100000 in
theorem gX8_lookedHouse_X8_looked : GoodIn wsX8_lookedHouse (wsV RX8 143 RX8 yX8_looked wsX8_looked) := goodIn_app (ygc yCe_wsX8_lookedHouse _ [258, 259, 260, 261] rfl rfl) ggX8_lookedHouse_X8_looked
noncomputable def yC_wsX8_lookedDeed : List (List Cond) := [[.code yX8_lookedDeed cX8_lookedDeed 2 (some .int)], [.fieldLink RX8 97 "VowTerraceModel" "fault" "I", .fieldLink RX8 76 "VowTerraceModel" "highestDeed" "I", .methodLink RX8 143 yX8_looked, .instanceMethod yX8_looked, .selects RX8 yX8_looked yX8_looked, .initialized RX8, .code yX8_looked cX8_looked 3 (some .int), .fieldLink RX8 125 "VowTerraceModel" "sort" "I", .fieldLink RX8 136 "VowTerraceModel" "value" "I", .methodLink RX8 139 yX8_needs, .instanceMethod yX8_needs, .selects RX8 yX8_needs yX8_needs, .code yX8_needs cX8_needs 3 none, .fieldLink RX8 100 "VowTerraceModel" "from" "I", .fieldLink RX8 103 "VowTerraceModel" "wrongAt" "I", .methodLink RX8 90 yX8_in, .static yX8_in, .code yX8_in cX8_in 6 (some .boolean)], wsX80]
set_option maxRecDepth 100000 in
theorem yCe_wsX8_lookedDeed : wsX8_lookedDeed = yC_wsX8_lookedDeed.flatten := rfl
set_option maxRecDepth 100000 in
theorem ggX8_lookedDeed_X8_looked : GoodIn wsX8_lookedDeed wsX8_looked := ygc yCe_wsX8_lookedDeed _ [262, 256, 263, 264, 265, 266, 267, 261, 268, 269, 270, 271, 272, 273, 512, 513, 514, 515, 516, 517, 518, 519, 520, 521, 522, 523, 524, 525, 526, 527, 528, 529, 530, 531, 532, 533, 534, 535, 536, 537, 538, 539, 540, 541, 542, 543, 544] rfl yg_wsX8_looked
set_option maxRecDepth 100000 in
theorem gX8_lookedDeed_X8_looked : GoodIn wsX8_lookedDeed (wsV RX8 143 RX8 yX8_looked wsX8_looked) := goodIn_app (ygc yCe_wsX8_lookedDeed _ [258, 259, 260, 261] rfl rfl) ggX8_lookedDeed_X8_looked
set_option maxRecDepth 100000 in
theorem yg_wsX8_lookedHouse : wsX8_lookedHouse.all goodWord = true := by decide +kernel
noncomputable def yC_wsX8_readAHouse : List (List Cond) := [[.code yX8_readAHouse cX8_readAHouse 2 (some .int)], wsX8_readAHouse_r1, wsX8_readAHouse_r2, wsX80]
set_option maxRecDepth 100000 in
theorem yCe_wsX8_readAHouse : wsX8_readAHouse = yC_wsX8_readAHouse.flatten := rfl
set_option maxRecDepth 100000 in
theorem ggX8_readAHouse_X8_lookedHouse : GoodIn wsX8_readAHouse wsX8_lookedHouse := ygc yCe_wsX8_readAHouse _ [260, 261, 262, 263, 264, 265, 259, 266, 267, 268, 269, 270, 271, 272, 273, 274, 275, 276, 277, 768, 769, 770, 771, 772, 773, 774, 775, 776, 777, 778, 779, 780, 781, 782, 783, 784, 785, 786, 787, 788, 789, 790, 791, 792, 793, 794, 795, 796, 797, 798, 799, 800] rfl yg_wsX8_lookedHouse
set_option maxRecDepth 100000 in
theorem gX8_readAHouse_X8_lookedHouse : GoodIn wsX8_readAHouse (wsV RX8 150 RX8 yX8_lookedHouse wsX8_lookedHouse) := goodIn_app (ygc yCe_wsX8_readAHouse _ [256, 257, 258, 259] rfl rfl) ggX8_readAHouse_X8_lookedHouse
set_option maxRecDepth 100000 in
theorem ggX8_readAHouse_X8_next : GoodIn wsX8_readAHouse wsX8_next := ygc yCe_wsX8_readAHouse _ [513, 261, 514, 273, 267, 515, 516, 517, 518, 268, 519, 520, 521, 259, 522, 523, 524, 275, 276, 277, 269, 270, 271, 272, 274, 768, 769, 770, 771, 772, 773, 774, 775, 776, 777, 778, 779, 780, 781, 782, 783, 784, 785, 786, 787, 788, 789, 790, 791, 792, 793, 794, 795, 796, 797, 798, 799, 800] rfl yg_wsX8_next
set_option maxRecDepth 100000 in
theorem gX8_readAHouse_X8_next : GoodIn wsX8_readAHouse (wsV RX8 147 RX8 yX8_next wsX8_next) := goodIn_app (ygc yCe_wsX8_readAHouse _ [278, 279, 512, 259] rfl rfl) ggX8_readAHouse_X8_next
set_option maxRecDepth 100000 in
theorem yg_wsX8_lookedDeed : wsX8_lookedDeed.all goodWord = true := by decide +kernel
noncomputable def yC_wsX8_readADeed : List (List Cond) := [[.code yX8_readADeed cX8_readADeed 2 (some .int)], wsX8_readADeed_r1, wsX8_readADeed_r2, wsX80]
set_option maxRecDepth 100000 in
theorem yCe_wsX8_readADeed : wsX8_readADeed = yC_wsX8_readADeed.flatten := rfl
set_option maxRecDepth 100000 in
theorem ggX8_readADeed_X8_lookedDeed : GoodIn wsX8_readADeed wsX8_lookedDeed := ygc yCe_wsX8_readADeed _ [260, 261, 262, 263, 264, 265, 259, 266, 267, 268, 269, 270, 271, 272, 273, 274, 275, 276, 277, 768, 769, 770, 771, 772, 773, 774, 775, 776, 777, 778, 779, 780, 781, 782, 783, 784, 785, 786, 787, 788, 789, 790, 791, 792, 793, 794, 795, 796, 797, 798, 799, 800] rfl yg_wsX8_lookedDeed
set_option maxRecDepth 100000 in
theorem gX8_readADeed_X8_lookedDeed : GoodIn wsX8_readADeed (wsV RX8 153 RX8 yX8_lookedDeed wsX8_lookedDeed) := goodIn_app (ygc yCe_wsX8_readADeed _ [256, 257, 258, 259] rfl rfl) ggX8_readADeed_X8_lookedDeed
set_option maxRecDepth 100000 in
theorem ggX8_readADeed_X8_next : GoodIn wsX8_readADeed wsX8_next := ygc yCe_wsX8_readADeed _ [513, 261, 514, 273, 267, 515, 516, 517, 518, 268, 519, 520, 521, 259, 522, 523, 524, 275, 276, 277, 269, 270, 271, 272, 274, 768, 769, 770, 771, 772, 773, 774, 775, 776, 777, 778, 779, 780, 781, 782, 783, 784, 785, 786, 787, 788, 789, 790, 791, 792, 793, 794, 795, 796, 797, 798, 799, 800] rfl yg_wsX8_next
set_option maxRecDepth 100000 in
theorem gX8_readADeed_X8_next : GoodIn wsX8_readADeed (wsV RX8 147 RX8 yX8_next wsX8_next) := goodIn_app (ygc yCe_wsX8_readADeed _ [278, 279, 512, 259] rfl rfl) ggX8_readADeed_X8_next
set_option maxRecDepth 100000 in
theorem yg_wsX8_kindNow : wsX8_kindNow.all goodWord = true := by decide +kernel
noncomputable def yC_wsX8_readKind : List (List Cond) := [[.code yX8_readKind cX8_readKind 2 (some .int)], wsX8_readKind_r1, wsX8_readKind_r2, wsX80]
set_option maxRecDepth 100000 in
theorem yCe_wsX8_readKind : wsX8_readKind = yC_wsX8_readKind.flatten := rfl
set_option maxRecDepth 100000 in
theorem ggX8_readKind_X8_kindNow : GoodIn wsX8_readKind wsX8_kindNow := ygc yCe_wsX8_readKind _ [262, 263, 264, 265, 261, 266, 267, 268, 269, 270, 271, 272, 273, 274, 275, 276, 277, 278, 768, 769, 770, 771, 772, 773, 774, 775, 776, 777, 778, 779, 780, 781, 782, 783, 784, 785, 786, 787, 788, 789, 790, 791, 792, 793, 794, 795, 796, 797, 798, 799, 800] rfl yg_wsX8_kindNow
set_option maxRecDepth 100000 in
theorem gX8_readKind_X8_kindNow : GoodIn wsX8_readKind (wsV RX8 156 RX8 yX8_kindNow wsX8_kindNow) := goodIn_app (ygc yCe_wsX8_readKind _ [258, 259, 260, 261] rfl rfl) ggX8_readKind_X8_kindNow
set_option maxRecDepth 100000 in
theorem ggX8_readKind_X8_needs : GoodIn wsX8_readKind wsX8_needs := ygc yCe_wsX8_readKind _ [514, 256, 268, 515, 768, 769, 770, 771, 772, 773, 774, 775, 776, 777, 778, 779, 780, 781, 782, 783, 784, 785, 786, 787, 788, 789, 790, 791, 792, 793, 794, 795, 796, 797, 798, 799, 800] rfl yg_wsX8_needs
set_option maxRecDepth 100000 in
theorem gX8_readKind_X8_needs : GoodIn wsX8_readKind (wsV RX8 139 RX8 yX8_needs wsX8_needs) := goodIn_app (ygc yCe_wsX8_readKind _ [279, 512, 513, 261] rfl rfl) ggX8_readKind_X8_needs
set_option maxRecDepth 100000 in
theorem ggX8_readKind_X8_next : GoodIn wsX8_readKind wsX8_next := ygc yCe_wsX8_readKind _ [519, 256, 267, 268, 257, 520, 521, 522, 523, 524, 269, 270, 271, 261, 272, 273, 274, 525, 526, 527, 279, 512, 513, 514, 515, 768, 769, 770, 771, 772, 773, 774, 775, 776, 777, 778, 779, 780, 781, 782, 783, 784, 785, 786, 787, 788, 789, 790, 791, 792, 793, 794, 795, 796, 797, 798, 799, 800] rfl yg_wsX8_next
set_option maxRecDepth 100000 in
theorem gX8_readKind_X8_next : GoodIn wsX8_readKind (wsV RX8 147 RX8 yX8_next wsX8_next) := goodIn_app (ygc yCe_wsX8_readKind _ [516, 517, 518, 261] rfl rfl) ggX8_readKind_X8_next
noncomputable def yC_wsX8_readFresh : List (List Cond) := [[.code yX8_readFresh cX8_readFresh 3 (some .int)], wsX8_readFresh_r1, wsX8_readFresh_r2, wsX80]
set_option maxRecDepth 100000 in
theorem yCe_wsX8_readFresh : wsX8_readFresh = yC_wsX8_readFresh.flatten := rfl
set_option maxRecDepth 100000 in
theorem ggX8_readFresh_X8_lookedHouse : GoodIn wsX8_readFresh wsX8_lookedHouse := ygc yCe_wsX8_readFresh _ [262, 256, 263, 264, 265, 266, 261, 267, 268, 269, 270, 271, 272, 273, 274, 275, 276, 277, 278, 768, 769, 770, 771, 772, 773, 774, 775, 776, 777, 778, 779, 780, 781, 782, 783, 784, 785, 786, 787, 788, 789, 790, 791, 792, 793, 794, 795, 796, 797, 798, 799, 800] rfl yg_wsX8_lookedHouse
set_option maxRecDepth 100000 in
theorem gX8_readFresh_X8_lookedHouse : GoodIn wsX8_readFresh (wsV RX8 150 RX8 yX8_lookedHouse wsX8_lookedHouse) := goodIn_app (ygc yCe_wsX8_readFresh _ [258, 259, 260, 261] rfl rfl) ggX8_readFresh_X8_lookedHouse
set_option maxRecDepth 100000 in
theorem ggX8_readFresh_X8_needs : GoodIn wsX8_readFresh wsX8_needs := ygc yCe_wsX8_readFresh _ [273, 256, 274, 275, 768, 769, 770, 771, 772, 773, 774, 775, 776, 777, 778, 779, 780, 781, 782, 783, 784, 785, 786, 787, 788, 789, 790, 791, 792, 793, 794, 795, 796, 797, 798, 799, 800] rfl yg_wsX8_needs
set_option maxRecDepth 100000 in
theorem gX8_readFresh_X8_needs : GoodIn wsX8_readFresh (wsV RX8 139 RX8 yX8_needs wsX8_needs) := goodIn_app (ygc yCe_wsX8_readFresh _ [270, 271, 272, 261] rfl rfl) ggX8_readFresh_X8_needs
set_option maxRecDepth 100000 in
theorem ggX8_readFresh_X8_next : GoodIn wsX8_readFresh wsX8_next := ygc yCe_wsX8_readFresh _ [514, 256, 515, 274, 268, 516, 517, 518, 519, 269, 520, 521, 522, 261, 523, 524, 525, 276, 277, 278, 270, 271, 272, 273, 275, 768, 769, 770, 771, 772, 773, 774, 775, 776, 777, 778, 779, 780, 781, 782, 783, 784, 785, 786, 787, 788, 789, 790, 791, 792, 793, 794, 795, 796, 797, 798, 799, 800] rfl yg_wsX8_next
set_option maxRecDepth 100000 in
theorem gX8_readFresh_X8_next : GoodIn wsX8_readFresh (wsV RX8 147 RX8 yX8_next wsX8_next) := goodIn_app (ygc yCe_wsX8_readFresh _ [279, 512, 513, 261] rfl rfl) ggX8_readFresh_X8_next
noncomputable def yC_wsX8_readCan : List (List Cond) := [[.code yX8_readCan cX8_readCan 3 none], wsX8_readCan_r1, wsX8_readCan_r2, wsX80]
set_option maxRecDepth 100000 in
theorem yCe_wsX8_readCan : wsX8_readCan = yC_wsX8_readCan.flatten := rfl
set_option maxRecDepth 100000 in
theorem ggX8_readCan_X8_lookedDeed : GoodIn wsX8_readCan wsX8_lookedDeed := ygc yCe_wsX8_readCan _ [263, 256, 264, 265, 266, 267, 262, 268, 257, 269, 270, 271, 272, 273, 274, 275, 276, 277, 278, 768, 769, 770, 771, 772, 773, 774, 775, 776, 777, 778, 779, 780, 781, 782, 783, 784, 785, 786, 787, 788, 789, 790, 791, 792, 793, 794, 795, 796, 797, 798, 799, 800] rfl yg_wsX8_lookedDeed
set_option maxRecDepth 100000 in
theorem gX8_readCan_X8_lookedDeed : GoodIn wsX8_readCan (wsV RX8 153 RX8 yX8_lookedDeed wsX8_lookedDeed) := goodIn_app (ygc yCe_wsX8_readCan _ [259, 260, 261, 262] rfl rfl) ggX8_readCan_X8_lookedDeed
set_option maxRecDepth 100000 in
theorem ggX8_readCan_X8_needs : GoodIn wsX8_readCan wsX8_needs := ygc yCe_wsX8_readCan _ [273, 256, 274, 275, 768, 769, 770, 771, 772, 773, 774, 775, 776, 777, 778, 779, 780, 781, 782, 783, 784, 785, 786, 787, 788, 789, 790, 791, 792, 793, 794, 795, 796, 797, 798, 799, 800] rfl yg_wsX8_needs
set_option maxRecDepth 100000 in
theorem gX8_readCan_X8_needs : GoodIn wsX8_readCan (wsV RX8 139 RX8 yX8_needs wsX8_needs) := goodIn_app (ygc yCe_wsX8_readCan _ [270, 271, 272, 262] rfl rfl) ggX8_readCan_X8_needs
set_option maxRecDepth 100000 in
theorem ggX8_readCan_X8_next : GoodIn wsX8_readCan wsX8_next := ygc yCe_wsX8_readCan _ [514, 256, 515, 274, 257, 516, 517, 518, 519, 269, 520, 521, 522, 262, 523, 524, 525, 276, 277, 278, 270, 271, 272, 273, 275, 768, 769, 770, 771, 772, 773, 774, 775, 776, 777, 778, 779, 780, 781, 782, 783, 784, 785, 786, 787, 788, 789, 790, 791, 792, 793, 794, 795, 796, 797, 798, 799, 800] rfl yg_wsX8_next
set_option maxRecDepth 100000 in
theorem gX8_readCan_X8_next : GoodIn wsX8_readCan (wsV RX8 147 RX8 yX8_next wsX8_next) := goodIn_app (ygc yCe_wsX8_readCan _ [279, 512, 513, 262] rfl rfl) ggX8_readCan_X8_next
set_option maxRecDepth 100000 in
theorem yg_wsX8_readFresh : wsX8_readFresh.all goodWord = true := by decide +kernel
noncomputable def yC_wsX8_readOfHouse : List (List Cond) := [[.code yX8_readOfHouse cX8_readOfHouse 3 none], wsX8_readOfHouse_r1, wsX8_readOfHouse_r2, wsX8_readOfHouse_r3, wsX8_readOfHouse_r4, wsX80]
set_option maxRecDepth 100000 in
theorem yCe_wsX8_readOfHouse : wsX8_readOfHouse = yC_wsX8_readOfHouse.flatten := rfl
set_option maxRecDepth 100000 in
theorem ggX8_readOfHouse_X8_readFresh : GoodIn wsX8_readOfHouse wsX8_readFresh := ygc yCe_wsX8_readOfHouse _ [262, 256, 263, 264, 265, 266, 261, 267, 268, 269, 270, 271, 272, 273, 274, 275, 276, 277, 278, 279, 512, 513, 514, 515, 516, 517, 518, 519, 520, 521, 522, 523, 524, 525, 526, 527, 528, 529, 530, 1280, 1281, 1282, 1283, 1284, 1285, 1286, 1287, 1288, 1289, 1290, 1291, 1292, 1293, 1294, 1295, 1296, 1297, 1298, 1299, 1300, 1301, 1302, 1303, 1304, 1305, 1306, 1307, 1308, 1309, 1310, 1311, 1312] rfl yg_wsX8_readFresh
set_option maxRecDepth 100000 in
theorem gX8_readOfHouse_X8_readFresh : GoodIn wsX8_readOfHouse (wsV RX8 159 RX8 yX8_readFresh wsX8_readFresh) := goodIn_app (ygc yCe_wsX8_readOfHouse _ [258, 259, 260, 261] rfl rfl) ggX8_readOfHouse_X8_readFresh
set_option maxRecDepth 100000 in
theorem yg_wsX8_readNumber : wsX8_readNumber.all goodWord = true := by decide +kernel
set_option maxRecDepth 100000 in
theorem ggX8_readOfHouse_X8_readNumber : GoodIn wsX8_readOfHouse wsX8_readNumber := ygc yCe_wsX8_readOfHouse _ [534, 269, 270, 271, 261, 272, 256, 273, 274, 275, 276, 277, 278, 279, 512, 513, 514, 515, 516, 517, 518, 519, 520, 521, 522, 523, 524, 525, 526, 527, 528, 529, 530, 1280, 1281, 1282, 1283, 1284, 1285, 1286, 1287, 1288, 1289, 1290, 1291, 1292, 1293, 1294, 1295, 1296, 1297, 1298, 1299, 1300, 1301, 1302, 1303, 1304, 1305, 1306, 1307, 1308, 1309, 1310, 1311, 1312] rfl yg_wsX8_readNumber
set_option maxRecDepth 100000 in
theorem gX8_readOfHouse_X8_readNumber : GoodIn wsX8_readOfHouse (wsV RX8 162 RX8 yX8_readNumber wsX8_readNumber) := goodIn_app (ygc yCe_wsX8_readOfHouse _ [531, 532, 533, 261] rfl rfl) ggX8_readOfHouse_X8_readNumber
set_option maxRecDepth 100000 in
theorem yg_wsX8_readCan : wsX8_readCan.all goodWord = true := by decide +kernel
set_option maxRecDepth 100000 in
theorem ggX8_readOfHouse_X8_readCan : GoodIn wsX8_readOfHouse wsX8_readCan := ygc yCe_wsX8_readOfHouse _ [770, 256, 273, 257, 771, 772, 773, 261, 774, 775, 269, 270, 271, 272, 274, 275, 276, 277, 278, 279, 512, 513, 514, 515, 516, 517, 518, 519, 520, 521, 522, 523, 524, 525, 526, 527, 528, 529, 530, 1280, 1281, 1282, 1283, 1284, 1285, 1286, 1287, 1288, 1289, 1290, 1291, 1292, 1293, 1294, 1295, 1296, 1297, 1298, 1299, 1300, 1301, 1302, 1303, 1304, 1305, 1306, 1307, 1308, 1309, 1310, 1311, 1312] rfl yg_wsX8_readCan
set_option maxRecDepth 100000 in
theorem gX8_readOfHouse_X8_readCan : GoodIn wsX8_readOfHouse (wsV RX8 165 RX8 yX8_readCan wsX8_readCan) := goodIn_app (ygc yCe_wsX8_readOfHouse _ [535, 768, 769, 261] rfl rfl) ggX8_readOfHouse_X8_readCan
set_option maxRecDepth 100000 in
theorem yg_wsX8_readKind : wsX8_readKind.all goodWord = true := by decide +kernel
set_option maxRecDepth 100000 in
theorem ggX8_readOfHouse_X8_readKind : GoodIn wsX8_readOfHouse wsX8_readKind := ygc yCe_wsX8_readOfHouse _ [779, 256, 273, 780, 781, 782, 261, 783, 784, 785, 786, 787, 520, 279, 525, 526, 527, 528, 529, 530, 788, 789, 790, 791, 275, 276, 277, 278, 512, 516, 517, 518, 519, 521, 522, 523, 524, 274, 513, 514, 515, 1280, 1281, 1282, 1283, 1284, 1285, 1286, 1287, 1288, 1289, 1290, 1291, 1292, 1293, 1294, 1295, 1296, 1297, 1298, 1299, 1300, 1301, 1302, 1303, 1304, 1305, 1306, 1307, 1308, 1309, 1310, 1311, 1312] rfl yg_wsX8_readKind
set_option maxRecDepth 100000 in
theorem gX8_readOfHouse_X8_readKind : GoodIn wsX8_readOfHouse (wsV RX8 169 RX8 yX8_readKind wsX8_readKind) := goodIn_app (ygc yCe_wsX8_readOfHouse _ [776, 777, 778, 261] rfl rfl) ggX8_readOfHouse_X8_readKind
set_option maxRecDepth 100000 in
theorem yg_wsX8_readADeed : wsX8_readADeed.all goodWord = true := by decide +kernel
set_option maxRecDepth 100000 in
theorem ggX8_readOfHouse_X8_readADeed : GoodIn wsX8_readOfHouse wsX8_readADeed := ygc yCe_wsX8_readOfHouse _ [1027, 771, 772, 773, 261, 774, 256, 775, 269, 270, 271, 272, 273, 274, 275, 276, 277, 278, 279, 512, 513, 514, 515, 516, 517, 518, 519, 520, 521, 522, 523, 524, 525, 526, 527, 528, 529, 530, 1280, 1281, 1282, 1283, 1284, 1285, 1286, 1287, 1288, 1289, 1290, 1291, 1292, 1293, 1294, 1295, 1296, 1297, 1298, 1299, 1300, 1301, 1302, 1303, 1304, 1305, 1306, 1307, 1308, 1309, 1310, 1311, 1312] rfl yg_wsX8_readADeed
set_option maxRecDepth 100000 in
theorem gX8_readOfHouse_X8_readADeed : GoodIn wsX8_readOfHouse (wsV RX8 172 RX8 yX8_readADeed wsX8_readADeed) := goodIn_app (ygc yCe_wsX8_readOfHouse _ [1024, 1025, 1026, 261] rfl rfl) ggX8_readOfHouse_X8_readADeed
noncomputable def yC_wsX8_readDeep : List (List Cond) := [[.code yX8_readDeep cX8_readDeep 2 (some .int)], wsX8_readDeep_r1, wsX8_readDeep_r2, wsX80]
set_option maxRecDepth 100000 in
theorem yCe_wsX8_readDeep : wsX8_readDeep = yC_wsX8_readDeep.flatten := rfl
set_option maxRecDepth 100000 in
theorem ggX8_readDeep_X8_looked : GoodIn wsX8_readDeep wsX8_looked := ygc yCe_wsX8_readDeep _ [261, 256, 262, 263, 264, 265, 266, 260, 267, 268, 269, 270, 271, 272, 768, 769, 770, 771, 772, 773, 774, 775, 776, 777, 778, 779, 780, 781, 782, 783, 784, 785, 786, 787, 788, 789, 790, 791, 792, 793, 794, 795, 796, 797, 798, 799, 800] rfl yg_wsX8_looked
set_option maxRecDepth 100000 in
theorem gX8_readDeep_X8_looked : GoodIn wsX8_readDeep (wsV RX8 143 RX8 yX8_looked wsX8_looked) := goodIn_app (ygc yCe_wsX8_readDeep _ [257, 258, 259, 260] rfl rfl) ggX8_readDeep_X8_looked
set_option maxRecDepth 100000 in
theorem ggX8_readDeep_X8_needs : GoodIn wsX8_readDeep wsX8_needs := ygc yCe_wsX8_readDeep _ [267, 256, 268, 269, 768, 769, 770, 771, 772, 773, 774, 775, 776, 777, 778, 779, 780, 781, 782, 783, 784, 785, 786, 787, 788, 789, 790, 791, 792, 793, 794, 795, 796, 797, 798, 799, 800] rfl yg_wsX8_needs
set_option maxRecDepth 100000 in
theorem gX8_readDeep_X8_needs : GoodIn wsX8_readDeep (wsV RX8 139 RX8 yX8_needs wsX8_needs) := goodIn_app (ygc yCe_wsX8_readDeep _ [264, 265, 266, 260] rfl rfl) ggX8_readDeep_X8_needs
set_option maxRecDepth 100000 in
theorem ggX8_readDeep_X8_next : GoodIn wsX8_readDeep wsX8_next := ygc yCe_wsX8_readDeep _ [276, 256, 277, 268, 262, 278, 279, 512, 513, 263, 514, 515, 516, 260, 517, 518, 519, 270, 271, 272, 264, 265, 266, 267, 269, 768, 769, 770, 771, 772, 773, 774, 775, 776, 777, 778, 779, 780, 781, 782, 783, 784, 785, 786, 787, 788, 789, 790, 791, 792, 793, 794, 795, 796, 797, 798, 799, 800] rfl yg_wsX8_next
set_option maxRecDepth 100000 in
theorem gX8_readDeep_X8_next : GoodIn wsX8_readDeep (wsV RX8 147 RX8 yX8_next wsX8_next) := goodIn_app (ygc yCe_wsX8_readDeep _ [273, 274, 275, 260] rfl rfl) ggX8_readDeep_X8_next
noncomputable def yC_wsX8_readLineOf : List (List Cond) := [[.code yX8_readLineOf cX8_readLineOf 3 none], wsX8_readLineOf_r1, wsX8_readLineOf_r2, wsX8_readLineOf_r3, wsX8_readLineOf_r4, wsX80]
set_option maxRecDepth 100000 in
theorem yCe_wsX8_readLineOf : wsX8_readLineOf = yC_wsX8_readLineOf.flatten := rfl
set_option maxRecDepth 100000 in
theorem ggX8_readLineOf_X8_readNumber : GoodIn wsX8_readLineOf wsX8_readNumber := ygc yCe_wsX8_readLineOf _ [265, 266, 267, 268, 264, 269, 270, 271, 272, 273, 274, 275, 276, 277, 278, 279, 512, 513, 514, 515, 516, 517, 518, 519, 520, 521, 522, 523, 524, 525, 526, 527, 528, 1280, 1281, 1282, 1283, 1284, 1285, 1286, 1287, 1288, 1289, 1290, 1291, 1292, 1293, 1294, 1295, 1296, 1297, 1298, 1299, 1300, 1301, 1302, 1303, 1304, 1305, 1306, 1307, 1308, 1309, 1310, 1311, 1312] rfl yg_wsX8_readNumber
set_option maxRecDepth 100000 in
theorem gX8_readLineOf_X8_readNumber : GoodIn wsX8_readLineOf (wsV RX8 162 RX8 yX8_readNumber wsX8_readNumber) := goodIn_app (ygc yCe_wsX8_readLineOf _ [261, 262, 263, 264] rfl rfl) ggX8_readLineOf_X8_readNumber
set_option maxRecDepth 100000 in
theorem yg_wsX8_readAHouse : wsX8_readAHouse.all goodWord = true := by decide +kernel
set_option maxRecDepth 100000 in
theorem ggX8_readLineOf_X8_readAHouse : GoodIn wsX8_readLineOf wsX8_readAHouse := ygc yCe_wsX8_readLineOf _ [532, 533, 534, 535, 264, 768, 270, 769, 266, 267, 268, 269, 271, 272, 273, 274, 275, 276, 277, 278, 279, 512, 513, 514, 515, 516, 517, 518, 519, 520, 521, 522, 523, 524, 525, 526, 527, 528, 1280, 1281, 1282, 1283, 1284, 1285, 1286, 1287, 1288, 1289, 1290, 1291, 1292, 1293, 1294, 1295, 1296, 1297, 1298, 1299, 1300, 1301, 1302, 1303, 1304, 1305, 1306, 1307, 1308, 1309, 1310, 1311, 1312] rfl yg_wsX8_readAHouse
set_option maxRecDepth 100000 in
theorem gX8_readLineOf_X8_readAHouse : GoodIn wsX8_readLineOf (wsV RX8 175 RX8 yX8_readAHouse wsX8_readAHouse) := goodIn_app (ygc yCe_wsX8_readLineOf _ [529, 530, 531, 264] rfl rfl) ggX8_readLineOf_X8_readAHouse
set_option maxRecDepth 100000 in
theorem ggX8_readLineOf_X8_readKind : GoodIn wsX8_readLineOf wsX8_readKind := ygc yCe_wsX8_readLineOf _ [773, 270, 271, 774, 775, 776, 264, 777, 778, 779, 780, 781, 518, 277, 523, 524, 525, 526, 527, 528, 782, 783, 784, 785, 273, 274, 275, 276, 278, 514, 515, 516, 517, 519, 520, 521, 522, 272, 279, 512, 513, 1280, 1281, 1282, 1283, 1284, 1285, 1286, 1287, 1288, 1289, 1290, 1291, 1292, 1293, 1294, 1295, 1296, 1297, 1298, 1299, 1300, 1301, 1302, 1303, 1304, 1305, 1306, 1307, 1308, 1309, 1310, 1311, 1312] rfl yg_wsX8_readKind
set_option maxRecDepth 100000 in
theorem gX8_readLineOf_X8_readKind : GoodIn wsX8_readLineOf (wsV RX8 169 RX8 yX8_readKind wsX8_readKind) := goodIn_app (ygc yCe_wsX8_readLineOf _ [770, 771, 772, 264] rfl rfl) ggX8_readLineOf_X8_readKind
set_option maxRecDepth 100000 in
theorem yg_wsX8_readDeep : wsX8_readDeep.all goodWord = true := by decide +kernel
set_option maxRecDepth 100000 in
theorem ggX8_readLineOf_X8_readDeep : GoodIn wsX8_readLineOf wsX8_readDeep := ygc yCe_wsX8_readLineOf _ [789, 270, 266, 267, 268, 264, 269, 271, 272, 273, 274, 275, 276, 277, 278, 279, 512, 513, 514, 515, 516, 517, 518, 519, 520, 521, 522, 523, 524, 525, 526, 527, 528, 1280, 1281, 1282, 1283, 1284, 1285, 1286, 1287, 1288, 1289, 1290, 1291, 1292, 1293, 1294, 1295, 1296, 1297, 1298, 1299, 1300, 1301, 1302, 1303, 1304, 1305, 1306, 1307, 1308, 1309, 1310, 1311, 1312] rfl yg_wsX8_readDeep
set_option maxRecDepth 100000 in
theorem gX8_readLineOf_X8_readDeep : GoodIn wsX8_readLineOf (wsV RX8 178 RX8 yX8_readDeep wsX8_readDeep) := goodIn_app (ygc yCe_wsX8_readLineOf _ [786, 787, 788, 264] rfl rfl) ggX8_readLineOf_X8_readDeep
set_option maxRecDepth 100000 in
theorem ggX8_readLineOf_X8_readADeed : GoodIn wsX8_readLineOf wsX8_readADeed := ygc yCe_wsX8_readLineOf _ [1025, 1026, 1027, 1028, 264, 1029, 270, 1030, 266, 267, 268, 269, 271, 272, 273, 274, 275, 276, 277, 278, 279, 512, 513, 514, 515, 516, 517, 518, 519, 520, 521, 522, 523, 524, 525, 526, 527, 528, 1280, 1281, 1282, 1283, 1284, 1285, 1286, 1287, 1288, 1289, 1290, 1291, 1292, 1293, 1294, 1295, 1296, 1297, 1298, 1299, 1300, 1301, 1302, 1303, 1304, 1305, 1306, 1307, 1308, 1309, 1310, 1311, 1312] rfl yg_wsX8_readADeed
set_option maxRecDepth 100000 in
theorem gX8_readLineOf_X8_readADeed : GoodIn wsX8_readLineOf (wsV RX8 172 RX8 yX8_readADeed wsX8_readADeed) := goodIn_app (ygc yCe_wsX8_readLineOf _ [790, 791, 1024, 264] rfl rfl) ggX8_readLineOf_X8_readADeed
set_option maxRecDepth 100000 in
theorem yg_wsX8_readOfHouse : wsX8_readOfHouse.all goodWord = true := by decide +kernel
set_option maxRecDepth 100000 in
theorem ggX8_readLineOf_X8_readOfHouse : GoodIn wsX8_readLineOf wsX8_readOfHouse := ygc yCe_wsX8_readLineOf _ [1034, 270, 260, 1035, 1036, 1037, 264, 1038, 1039, 533, 534, 535, 768, 769, 266, 267, 268, 269, 271, 272, 273, 274, 275, 276, 277, 278, 279, 512, 513, 514, 515, 516, 517, 518, 519, 520, 521, 522, 523, 524, 525, 526, 527, 528, 261, 262, 263, 265, 1040, 1041, 1042, 1043, 1026, 1027, 1028, 1029, 1030, 770, 771, 772, 773, 774, 775, 776, 777, 778, 779, 780, 781, 782, 783, 784, 785, 790, 791, 1024, 1025, 1280, 1281, 1282, 1283, 1284, 1285, 1286, 1287, 1288, 1289, 1290, 1291, 1292, 1293, 1294, 1295, 1296, 1297, 1298, 1299, 1300, 1301, 1302, 1303, 1304, 1305, 1306, 1307, 1308, 1309, 1310, 1311, 1312] rfl yg_wsX8_readOfHouse
set_option maxRecDepth 100000 in
theorem gX8_readLineOf_X8_readOfHouse : GoodIn wsX8_readLineOf (wsV RX8 181 RX8 yX8_readOfHouse wsX8_readOfHouse) := goodIn_app (ygc yCe_wsX8_readLineOf _ [1031, 1032, 1033, 264] rfl rfl) ggX8_readLineOf_X8_readOfHouse
set_option maxRecDepth 100000 in
theorem yg_wsX8_lineNow : wsX8_lineNow.all goodWord = true := by decide +kernel
noncomputable def yC_wsX8_readLine : List (List Cond) := [[.code yX8_readLine cX8_readLine 4 none], wsX8_readLine_r1, wsX8_readLine_r2, wsX8_readLine_r3, wsX8_readLine_r4, wsX8_readLine_r5, wsX80]
set_option maxRecDepth 100000 in
theorem yCe_wsX8_readLine : wsX8_readLine = yC_wsX8_readLine.flatten := rfl
set_option maxRecDepth 100000 in
theorem ggX8_readLine_X8_lineNow : GoodIn wsX8_readLine wsX8_lineNow := ygc yCe_wsX8_readLine _ [265, 266, 267, 268, 264, 269, 270, 271, 272, 273, 274, 275, 276, 277, 278, 279, 512, 513, 514, 515, 516, 517, 1536, 1537, 1538, 1539, 1540, 1541, 1542, 1543, 1544, 1545, 1546, 1547, 1548, 1549, 1550, 1551, 1552, 1553, 1554, 1555, 1556, 1557, 1558, 1559, 1560, 1561, 1562, 1563, 1564, 1565, 1566, 1567, 1568] rfl yg_wsX8_lineNow
set_option maxRecDepth 100000 in
theorem gX8_readLine_X8_lineNow : GoodIn wsX8_readLine (wsV RX8 184 RX8 yX8_lineNow wsX8_lineNow) := goodIn_app (ygc yCe_wsX8_readLine _ [261, 262, 263, 264] rfl rfl) ggX8_readLine_X8_lineNow
set_option maxRecDepth 100000 in
theorem ggX8_readLine_X8_needs : GoodIn wsX8_readLine wsX8_needs := ygc yCe_wsX8_readLine _ [521, 260, 271, 522, 1536, 1537, 1538, 1539, 1540, 1541, 1542, 1543, 1544, 1545, 1546, 1547, 1548, 1549, 1550, 1551, 1552, 1553, 1554, 1555, 1556, 1557, 1558, 1559, 1560, 1561, 1562, 1563, 1564, 1565, 1566, 1567, 1568] rfl yg_wsX8_needs
set_option maxRecDepth 100000 in
theorem gX8_readLine_X8_needs : GoodIn wsX8_readLine (wsV RX8 139 RX8 yX8_needs wsX8_needs) := goodIn_app (ygc yCe_wsX8_readLine _ [518, 519, 520, 264] rfl rfl) ggX8_readLine_X8_needs
set_option maxRecDepth 100000 in
theorem ggX8_readLine_X8_next : GoodIn wsX8_readLine wsX8_next := ygc yCe_wsX8_readLine _ [526, 260, 270, 271, 256, 527, 528, 529, 530, 531, 272, 273, 274, 264, 275, 276, 277, 532, 533, 534, 518, 519, 520, 521, 522, 1536, 1537, 1538, 1539, 1540, 1541, 1542, 1543, 1544, 1545, 1546, 1547, 1548, 1549, 1550, 1551, 1552, 1553, 1554, 1555, 1556, 1557, 1558, 1559, 1560, 1561, 1562, 1563, 1564, 1565, 1566, 1567, 1568] rfl yg_wsX8_next
set_option maxRecDepth 100000 in
theorem gX8_readLine_X8_next : GoodIn wsX8_readLine (wsV RX8 147 RX8 yX8_next wsX8_next) := goodIn_app (ygc yCe_wsX8_readLine _ [523, 524, 525, 264] rfl rfl) ggX8_readLine_X8_next
set_option maxRecDepth 100000 in
theorem yg_wsX8_readLineOf : wsX8_readLineOf.all goodWord = true := by decide +kernel
set_option maxRecDepth 100000 in
theorem ggX8_readLine_X8_readLineOf : GoodIn wsX8_readLine wsX8_readLineOf := ygc yCe_wsX8_readLine _ [770, 771, 772, 773, 257, 258, 774, 775, 776, 264, 777, 778, 779, 780, 781, 260, 256, 531, 518, 519, 520, 521, 271, 522, 532, 533, 534, 523, 524, 525, 526, 270, 527, 528, 529, 530, 272, 273, 274, 275, 276, 277, 782, 783, 784, 785, 786, 787, 788, 789, 790, 791, 1024, 1025, 1026, 1027, 1028, 1029, 1030, 266, 267, 268, 269, 278, 279, 512, 513, 1031, 1032, 1033, 1034, 1035, 1036, 1037, 1038, 1039, 1040, 1041, 1042, 1043, 1044, 1045, 1046, 1047, 1280, 1281, 1282, 1283, 1284, 1285, 1286, 1287, 1288, 1536, 1537, 1538, 1539, 1540, 1541, 1542, 1543, 1544, 1545, 1546, 1547, 1548, 1549, 1550, 1551, 1552, 1553, 1554, 1555, 1556, 1557, 1558, 1559, 1560, 1561, 1562, 1563, 1564, 1565, 1566, 1567, 1568] rfl yg_wsX8_readLineOf
set_option maxRecDepth 100000 in
theorem gX8_readLine_X8_readLineOf : GoodIn wsX8_readLine (wsV RX8 187 RX8 yX8_readLineOf wsX8_readLineOf) := goodIn_app (ygc yCe_wsX8_readLine _ [535, 768, 769, 264] rfl rfl) ggX8_readLine_X8_readLineOf
noncomputable def yC_wsX8_text : List (List Cond) := [[.code yX8_text cX8_text 2 (some .int)], wsX8_text_r1, wsX8_text_r2, wsX8_text_r3, wsX8_text_r4, wsX8_text_r5, wsX8_text_r6, wsX80]
set_option maxRecDepth 100000 in
theorem yCe_wsX8_text : wsX8_text = yC_wsX8_text.flatten := rfl
set_option maxRecDepth 100000 in
theorem ggX8_text_X8_firstDraft : GoodIn wsX8_text wsX8_firstDraft := ygc yCe_wsX8_text _ [269, 270, 271, 260, 272, 273, 262, 259, 261, 1792, 1793, 1794, 1795, 1796, 1797, 1798, 1799, 1800, 1801, 1802, 1803, 1804, 1805, 1806, 1807, 1808, 1809, 1810, 1811, 1812, 1813, 1814, 1815, 1816, 1817, 1818, 1819, 1820, 1821, 1822, 1823, 1824] rfl yg_wsX8_firstDraft
set_option maxRecDepth 100000 in
theorem gX8_text_X8_firstDraft : GoodIn wsX8_text (wsV RX8 53 RX8 yX8_firstDraft wsX8_firstDraft) := goodIn_app (ygc yCe_wsX8_text _ [265, 266, 267, 268] rfl rfl) ggX8_text_X8_firstDraft
set_option maxRecDepth 100000 in
theorem ggX8_text_X8_next : GoodIn wsX8_text wsX8_next := ygc yCe_wsX8_text _ [277, 256, 257, 278, 258, 279, 512, 513, 514, 515, 516, 517, 518, 268, 519, 263, 520, 521, 522, 523, 524, 525, 526, 527, 264, 1792, 1793, 1794, 1795, 1796, 1797, 1798, 1799, 1800, 1801, 1802, 1803, 1804, 1805, 1806, 1807, 1808, 1809, 1810, 1811, 1812, 1813, 1814, 1815, 1816, 1817, 1818, 1819, 1820, 1821, 1822, 1823, 1824] rfl yg_wsX8_next
set_option maxRecDepth 100000 in
theorem gX8_text_X8_next : GoodIn wsX8_text (wsV RX8 147 RX8 yX8_next wsX8_next) := goodIn_app (ygc yCe_wsX8_text _ [274, 275, 276, 268] rfl rfl) ggX8_text_X8_next
set_option maxRecDepth 100000 in
theorem yg_wsX8_readLine : wsX8_readLine.all goodWord = true := by decide +kernel
set_option maxRecDepth 100000 in
theorem ggX8_text_X8_readLine : GoodIn wsX8_text wsX8_readLine := ygc yCe_wsX8_text _ [531, 258, 262, 270, 273, 256, 532, 533, 534, 268, 535, 768, 769, 770, 771, 257, 278, 516, 517, 518, 519, 263, 520, 772, 773, 774, 775, 776, 777, 778, 779, 524, 525, 526, 527, 264, 274, 275, 276, 277, 279, 512, 513, 514, 515, 521, 522, 523, 780, 781, 782, 783, 260, 272, 784, 785, 786, 787, 788, 789, 790, 791, 1024, 1025, 1026, 1027, 1028, 1029, 1030, 1031, 1032, 259, 1033, 1034, 1035, 1036, 1037, 1038, 1039, 1040, 1041, 1042, 1043, 1044, 1045, 1046, 1047, 1280, 1281, 1282, 1283, 1284, 261, 1285, 1286, 1287, 1288, 1289, 1290, 1291, 1292, 271, 1293, 1294, 1295, 1296, 1792, 1793, 1794, 1795, 1796, 1797, 1798, 1799, 1800, 1801, 1802, 1803, 1804, 1805, 1806, 1807, 1808, 1809, 1810, 1811, 1812, 1813, 1814, 1815, 1816, 1817, 1818, 1819, 1820, 1821, 1822, 1823, 1824] rfl yg_wsX8_readLine
set_option maxRecDepth 100000 in
theorem gX8_text_X8_readLine : GoodIn wsX8_text (wsV RX8 190 RX8 yX8_readLine wsX8_readLine) := goodIn_app (ygc yCe_wsX8_text _ [528, 529, 530, 268] rfl rfl) ggX8_text_X8_readLine
set_option maxRecDepth 100000 in
theorem ggX8_text_X8_needs : GoodIn wsX8_text wsX8_needs := ygc yCe_wsX8_text _ [527, 256, 278, 264, 1792, 1793, 1794, 1795, 1796, 1797, 1798, 1799, 1800, 1801, 1802, 1803, 1804, 1805, 1806, 1807, 1808, 1809, 1810, 1811, 1812, 1813, 1814, 1815, 1816, 1817, 1818, 1819, 1820, 1821, 1822, 1823, 1824] rfl yg_wsX8_needs
set_option maxRecDepth 100000 in
theorem gX8_text_X8_needs : GoodIn wsX8_text (wsV RX8 139 RX8 yX8_needs wsX8_needs) := goodIn_app (ygc yCe_wsX8_text _ [524, 525, 526, 268] rfl rfl) ggX8_text_X8_needs
set_option maxRecDepth 100000 in
theorem ggX8_text_X8_keepDraft : GoodIn wsX8_text wsX8_keepDraft := ygc yCe_wsX8_text _ [1300, 1301, 270, 260, 1302, 272, 1303, 262, 1536, 1537, 784, 1538, 1792, 1793, 1794, 1795, 1796, 1797, 1798, 1799, 1800, 1801, 1802, 1803, 1804, 1805, 1806, 1807, 1808, 1809, 1810, 1811, 1812, 1813, 1814, 1815, 1816, 1817, 1818, 1819, 1820, 1821, 1822, 1823, 1824] rfl yg_wsX8_keepDraft
set_option maxRecDepth 100000 in
theorem gX8_text_X8_keepDraft : GoodIn wsX8_text (wsV RX8 56 RX8 yX8_keepDraft wsX8_keepDraft) := goodIn_app (ygc yCe_wsX8_text _ [1297, 1298, 1299, 268] rfl rfl) ggX8_text_X8_keepDraft
set_option maxRecDepth 100000 in
theorem ggX8_isHouse_X8_in : GoodIn wsX8_isHouse wsX8_in := goodIn_r _ [5] rfl yg_wsX8_in
set_option maxRecDepth 100000 in
theorem gX8_isHouse_X8_in : GoodIn wsX8_isHouse (va_wsS RX8 90 yX8_in wsX8_in) := goodIn_app (goodIn_r _ [2, 3, 4] rfl rfl) ggX8_isHouse_X8_in
set_option maxRecDepth 100000 in
theorem ggX8_isDeed_X8_in : GoodIn wsX8_isDeed wsX8_in := goodIn_r _ [5] rfl yg_wsX8_in
set_option maxRecDepth 100000 in
theorem gX8_isDeed_X8_in : GoodIn wsX8_isDeed (va_wsS RX8 90 yX8_in wsX8_in) := goodIn_app (goodIn_r _ [2, 3, 4] rfl rfl) ggX8_isDeed_X8_in
set_option maxRecDepth 100000 in
theorem ggX8_isKind_X8_in : GoodIn wsX8_isKind wsX8_in := goodIn_r _ [5] rfl yg_wsX8_in
set_option maxRecDepth 100000 in
theorem gX8_isKind_X8_in : GoodIn wsX8_isKind (va_wsS RX8 90 yX8_in wsX8_in) := goodIn_app (goodIn_r _ [2, 3, 4] rfl rfl) ggX8_isKind_X8_in
set_option maxRecDepth 100000 in
theorem ggX8_isDeep_X8_in : GoodIn wsX8_isDeep wsX8_in := goodIn_r _ [5] rfl yg_wsX8_in
set_option maxRecDepth 100000 in
theorem gX8_isDeep_X8_in : GoodIn wsX8_isDeep (va_wsS RX8 90 yX8_in wsX8_in) := goodIn_app (goodIn_r _ [2, 3, 4] rfl rfl) ggX8_isDeep_X8_in
set_option maxRecDepth 100000 in
theorem yg_wsX8_flag : wsX8_flag.all goodWord = true := by decide +kernel
noncomputable def yC_wsX8_rule : List (List Cond) := [[.code yX8_rule cX8_rule 2 (some .int)], [.fieldLink RX8 79 "VowTerraceModel" "houses" "I", .fieldLink RX8 82 "VowTerraceModel" "isRing" "Z", .fieldLink RX8 85 "VowTerraceModel" "deeds" "I", .fieldLink RX8 7 "VowTerraceModel" "st" "[I", .constantLong RX8 201 (5), .constantLong RX8 203 (8), .methodLink RX8 197 yX8_flag, .static yX8_flag, .initialized RX8, .code yX8_flag cX8_flag 1 (some .int), .methodLink RX8 90 yX8_in, .static yX8_in, .code yX8_in cX8_in 6 (some .boolean)], wsX80]
set_option maxRecDepth 100000 in
theorem yCe_wsX8_rule : wsX8_rule = yC_wsX8_rule.flatten := rfl
set_option maxRecDepth 100000 in
theorem ggX8_rule_X8_flag : GoodIn wsX8_rule wsX8_flag := ygc yCe_wsX8_rule _ [265] rfl yg_wsX8_flag
set_option maxRecDepth 100000 in
theorem gX8_rule_X8_flag : GoodIn wsX8_rule (va_wsS RX8 197 yX8_flag wsX8_flag) := goodIn_app (ygc yCe_wsX8_rule _ [262, 263, 264] rfl rfl) ggX8_rule_X8_flag
set_option maxRecDepth 100000 in
theorem ggX8_rule_X8_in : GoodIn wsX8_rule wsX8_in := ygc yCe_wsX8_rule _ [268] rfl yg_wsX8_in
set_option maxRecDepth 100000 in
theorem gX8_rule_X8_in : GoodIn wsX8_rule (va_wsS RX8 90 yX8_in wsX8_in) := goodIn_app (ygc yCe_wsX8_rule _ [266, 267, 264] rfl rfl) ggX8_rule_X8_in
set_option maxRecDepth 100000 in
theorem yg_wsX8_isHouse : wsX8_isHouse.all goodWord = true := by decide +kernel
noncomputable def yC_wsX8_house : List (List Cond) := [[.code yX8_house cX8_house 3 (some .int)], [.constantLong RX8 201 (5), .fieldLink RX8 7 "VowTerraceModel" "st" "[I", .methodLink RX8 205 yX8_isHouse, .instanceMethod yX8_isHouse, .selects RX8 yX8_isHouse yX8_isHouse, .initialized RX8, .code yX8_isHouse cX8_isHouse 2 (some .boolean), .fieldLink RX8 79 "VowTerraceModel" "houses" "I", .methodLink RX8 90 yX8_in, .static yX8_in, .code yX8_in cX8_in 6 (some .boolean), .methodLink RX8 209 yX8_isDeed, .instanceMethod yX8_isDeed, .selects RX8 yX8_isDeed yX8_isDeed, .code yX8_isDeed cX8_isDeed 2 (some .boolean), .fieldLink RX8 85 "VowTerraceModel" "deeds" "I"], wsX80]
set_option maxRecDepth 100000 in
theorem yCe_wsX8_house : wsX8_house = yC_wsX8_house.flatten := rfl
set_option maxRecDepth 100000 in
theorem ggX8_house_X8_isHouse : GoodIn wsX8_house wsX8_isHouse := ygc yCe_wsX8_house _ [262, 263, 264, 265, 261, 266, 512, 513, 514, 515, 516, 517, 518, 519, 520, 521, 522, 523, 524, 525, 526, 527, 528, 529, 530, 531, 532, 533, 534, 535, 536, 537, 538, 539, 540, 541, 542, 543, 544] rfl yg_wsX8_isHouse
set_option maxRecDepth 100000 in
theorem gX8_house_X8_isHouse : GoodIn wsX8_house (wsV RX8 205 RX8 yX8_isHouse wsX8_isHouse) := goodIn_app (ygc yCe_wsX8_house _ [258, 259, 260, 261] rfl rfl) ggX8_house_X8_isHouse
set_option maxRecDepth 100000 in
theorem ggX8_house_X8_in : GoodIn wsX8_house wsX8_in := ygc yCe_wsX8_house _ [266] rfl yg_wsX8_in
set_option maxRecDepth 100000 in
theorem gX8_house_X8_in : GoodIn wsX8_house (va_wsS RX8 90 yX8_in wsX8_in) := goodIn_app (ygc yCe_wsX8_house _ [264, 265, 261] rfl rfl) ggX8_house_X8_in
set_option maxRecDepth 100000 in
theorem yg_wsX8_isDeed : wsX8_isDeed.all goodWord = true := by decide +kernel
set_option maxRecDepth 100000 in
theorem ggX8_house_X8_isDeed : GoodIn wsX8_house wsX8_isDeed := ygc yCe_wsX8_house _ [270, 271, 264, 265, 261, 266, 512, 513, 514, 515, 516, 517, 518, 519, 520, 521, 522, 523, 524, 525, 526, 527, 528, 529, 530, 531, 532, 533, 534, 535, 536, 537, 538, 539, 540, 541, 542, 543, 544] rfl yg_wsX8_isDeed
set_option maxRecDepth 100000 in
theorem gX8_house_X8_isDeed : GoodIn wsX8_house (wsV RX8 209 RX8 yX8_isDeed wsX8_isDeed) := goodIn_app (ygc yCe_wsX8_house _ [267, 268, 269, 261] rfl rfl) ggX8_house_X8_isDeed
noncomputable def yC_wsX8_cost : List (List Cond) := [[.code yX8_cost cX8_cost 2 (some .int)], [.fieldLink RX8 20 "VowTerraceModel" "costs" "[I", .methodLink RX8 209 yX8_isDeed, .instanceMethod yX8_isDeed, .selects RX8 yX8_isDeed yX8_isDeed, .initialized RX8, .code yX8_isDeed cX8_isDeed 2 (some .boolean), .fieldLink RX8 85 "VowTerraceModel" "deeds" "I", .methodLink RX8 90 yX8_in, .static yX8_in, .code yX8_in cX8_in 6 (some .boolean)], wsX80]
set_option maxRecDepth 100000 in
theorem yCe_wsX8_cost : wsX8_cost = yC_wsX8_cost.flatten := rfl
set_option maxRecDepth 100000 in
theorem ggX8_cost_X8_isDeed : GoodIn wsX8_cost wsX8_isDeed := ygc yCe_wsX8_cost _ [261, 262, 263, 264, 260, 265, 512, 513, 514, 515, 516, 517, 518, 519, 520, 521, 522, 523, 524, 525, 526, 527, 528, 529, 530, 531, 532, 533, 534, 535, 536, 537, 538, 539, 540, 541, 542, 543, 544] rfl yg_wsX8_isDeed
set_option maxRecDepth 100000 in
theorem gX8_cost_X8_isDeed : GoodIn wsX8_cost (wsV RX8 209 RX8 yX8_isDeed wsX8_isDeed) := goodIn_app (ygc yCe_wsX8_cost _ [257, 258, 259, 260] rfl rfl) ggX8_cost_X8_isDeed
set_option maxRecDepth 100000 in
theorem ggX8_vow_X8_in : GoodIn wsX8_vow wsX8_in := goodIn_r _ [6] rfl yg_wsX8_in
set_option maxRecDepth 100000 in
theorem gX8_vow_X8_in : GoodIn wsX8_vow (va_wsS RX8 90 yX8_in wsX8_in) := goodIn_app (goodIn_r _ [3, 4, 5] rfl rfl) ggX8_vow_X8_in
set_option maxRecDepth 100000 in
theorem ggX8_want_X8_in : GoodIn wsX8_want wsX8_in := goodIn_r _ [5] rfl yg_wsX8_in
set_option maxRecDepth 100000 in
theorem gX8_want_X8_in : GoodIn wsX8_want (va_wsS RX8 90 yX8_in wsX8_in) := goodIn_app (goodIn_r _ [2, 3, 4] rfl rfl) ggX8_want_X8_in
noncomputable def yC_wsX8_fund : List (List Cond) := [[.code yX8_fund cX8_fund 3 (some .int)], [.constantLong RX8 212 (99), .methodLink RX8 205 yX8_isHouse, .instanceMethod yX8_isHouse, .selects RX8 yX8_isHouse yX8_isHouse, .initialized RX8, .code yX8_isHouse cX8_isHouse 2 (some .boolean), .fieldLink RX8 79 "VowTerraceModel" "houses" "I", .methodLink RX8 90 yX8_in, .static yX8_in, .code yX8_in cX8_in 6 (some .boolean), .methodLink RX8 214 yX8_becomes, .instanceMethod yX8_becomes, .selects RX8 yX8_becomes yX8_becomes, .code yX8_becomes cX8_becomes 4 (some .int), .fieldLink RX8 7 "VowTerraceModel" "st" "[I"], wsX80]
set_option maxRecDepth 100000 in
theorem yCe_wsX8_fund : wsX8_fund = yC_wsX8_fund.flatten := rfl
set_option maxRecDepth 100000 in
theorem ggX8_fund_X8_isHouse : GoodIn wsX8_fund wsX8_isHouse := ygc yCe_wsX8_fund _ [261, 262, 263, 264, 260, 265, 512, 513, 514, 515, 516, 517, 518, 519, 520, 521, 522, 523, 524, 525, 526, 527, 528, 529, 530, 531, 532, 533, 534, 535, 536, 537, 538, 539, 540, 541, 542, 543, 544] rfl yg_wsX8_isHouse
set_option maxRecDepth 100000 in
theorem gX8_fund_X8_isHouse : GoodIn wsX8_fund (wsV RX8 205 RX8 yX8_isHouse wsX8_isHouse) := goodIn_app (ygc yCe_wsX8_fund _ [257, 258, 259, 260] rfl rfl) ggX8_fund_X8_isHouse
set_option maxRecDepth 100000 in
theorem ggX8_fund_X8_in : GoodIn wsX8_fund wsX8_in := ygc yCe_wsX8_fund _ [265] rfl yg_wsX8_in
set_option maxRecDepth 100000 in
theorem gX8_fund_X8_in : GoodIn wsX8_fund (va_wsS RX8 90 yX8_in wsX8_in) := goodIn_app (ygc yCe_wsX8_fund _ [263, 264, 260] rfl rfl) ggX8_fund_X8_in
set_option maxRecDepth 100000 in
theorem yg_wsX8_becomes : wsX8_becomes.all goodWord = true := by decide +kernel
set_option maxRecDepth 100000 in
theorem ggX8_fund_X8_becomes : GoodIn wsX8_fund wsX8_becomes := ygc yCe_wsX8_fund _ [269, 270, 512, 513, 514, 515, 516, 517, 518, 519, 520, 521, 522, 523, 524, 525, 526, 527, 528, 529, 530, 531, 532, 533, 534, 535, 536, 537, 538, 539, 540, 541, 542, 543, 544] rfl yg_wsX8_becomes
set_option maxRecDepth 100000 in
theorem gX8_fund_X8_becomes : GoodIn wsX8_fund (wsV RX8 214 RX8 yX8_becomes wsX8_becomes) := goodIn_app (ygc yCe_wsX8_fund _ [266, 267, 268, 260] rfl rfl) ggX8_fund_X8_becomes
noncomputable def yC_wsX8_can : List (List Cond) := [[.code yX8_can cX8_can 5 (some .int)], [.fieldLink RX8 7 "VowTerraceModel" "st" "[I", .methodLink RX8 205 yX8_isHouse, .instanceMethod yX8_isHouse, .selects RX8 yX8_isHouse yX8_isHouse, .initialized RX8, .code yX8_isHouse cX8_isHouse 2 (some .boolean), .fieldLink RX8 79 "VowTerraceModel" "houses" "I", .methodLink RX8 90 yX8_in, .static yX8_in, .code yX8_in cX8_in 6 (some .boolean), .methodLink RX8 209 yX8_isDeed, .instanceMethod yX8_isDeed, .selects RX8 yX8_isDeed yX8_isDeed, .code yX8_isDeed cX8_isDeed 2 (some .boolean), .fieldLink RX8 85 "VowTerraceModel" "deeds" "I"], wsX80]
set_option maxRecDepth 100000 in
theorem yCe_wsX8_can : wsX8_can = yC_wsX8_can.flatten := rfl
set_option maxRecDepth 100000 in
theorem ggX8_can_X8_isHouse : GoodIn wsX8_can wsX8_isHouse := ygc yCe_wsX8_can _ [261, 262, 263, 264, 260, 265, 512, 513, 514, 515, 516, 517, 518, 519, 520, 521, 522, 523, 524, 525, 526, 527, 528, 529, 530, 531, 532, 533, 534, 535, 536, 537, 538, 539, 540, 541, 542, 543, 544] rfl yg_wsX8_isHouse
set_option maxRecDepth 100000 in
theorem gX8_can_X8_isHouse : GoodIn wsX8_can (wsV RX8 205 RX8 yX8_isHouse wsX8_isHouse) := goodIn_app (ygc yCe_wsX8_can _ [257, 258, 259, 260] rfl rfl) ggX8_can_X8_isHouse
set_option maxRecDepth 100000 in
theorem ggX8_can_X8_isDeed : GoodIn wsX8_can wsX8_isDeed := ygc yCe_wsX8_can _ [269, 270, 263, 264, 260, 265, 512, 513, 514, 515, 516, 517, 518, 519, 520, 521, 522, 523, 524, 525, 526, 527, 528, 529, 530, 531, 532, 533, 534, 535, 536, 537, 538, 539, 540, 541, 542, 543, 544] rfl yg_wsX8_isDeed
set_option maxRecDepth 100000 in
theorem gX8_can_X8_isDeed : GoodIn wsX8_can (wsV RX8 209 RX8 yX8_isDeed wsX8_isDeed) := goodIn_app (ygc yCe_wsX8_can _ [266, 267, 268, 260] rfl rfl) ggX8_can_X8_isDeed
noncomputable def yC_wsX8_lawyer : List (List Cond) := [[.code yX8_lawyer cX8_lawyer 3 (some .int)], [.methodLink RX8 205 yX8_isHouse, .instanceMethod yX8_isHouse, .selects RX8 yX8_isHouse yX8_isHouse, .initialized RX8, .code yX8_isHouse cX8_isHouse 2 (some .boolean), .fieldLink RX8 79 "VowTerraceModel" "houses" "I", .methodLink RX8 90 yX8_in, .static yX8_in, .code yX8_in cX8_in 6 (some .boolean), .methodLink RX8 197 yX8_flag, .static yX8_flag, .code yX8_flag cX8_flag 1 (some .int), .methodLink RX8 214 yX8_becomes, .instanceMethod yX8_becomes, .selects RX8 yX8_becomes yX8_becomes, .code yX8_becomes cX8_becomes 4 (some .int), .fieldLink RX8 7 "VowTerraceModel" "st" "[I"], wsX80]
set_option maxRecDepth 100000 in
theorem yCe_wsX8_lawyer : wsX8_lawyer = yC_wsX8_lawyer.flatten := rfl
set_option maxRecDepth 100000 in
theorem ggX8_lawyer_X8_isHouse : GoodIn wsX8_lawyer wsX8_isHouse := ygc yCe_wsX8_lawyer _ [260, 261, 262, 263, 259, 264, 512, 513, 514, 515, 516, 517, 518, 519, 520, 521, 522, 523, 524, 525, 526, 527, 528, 529, 530, 531, 532, 533, 534, 535, 536, 537, 538, 539, 540, 541, 542, 543, 544] rfl yg_wsX8_isHouse
set_option maxRecDepth 100000 in
theorem gX8_lawyer_X8_isHouse : GoodIn wsX8_lawyer (wsV RX8 205 RX8 yX8_isHouse wsX8_isHouse) := goodIn_app (ygc yCe_wsX8_lawyer _ [256, 257, 258, 259] rfl rfl) ggX8_lawyer_X8_isHouse
set_option maxRecDepth 100000 in
theorem ggX8_lawyer_X8_flag : GoodIn wsX8_lawyer wsX8_flag := ygc yCe_wsX8_lawyer _ [267] rfl yg_wsX8_flag
set_option maxRecDepth 100000 in
theorem gX8_lawyer_X8_flag : GoodIn wsX8_lawyer (va_wsS RX8 197 yX8_flag wsX8_flag) := goodIn_app (ygc yCe_wsX8_lawyer _ [265, 266, 259] rfl rfl) ggX8_lawyer_X8_flag
set_option maxRecDepth 100000 in
theorem ggX8_lawyer_X8_becomes : GoodIn wsX8_lawyer wsX8_becomes := ygc yCe_wsX8_lawyer _ [271, 272, 512, 513, 514, 515, 516, 517, 518, 519, 520, 521, 522, 523, 524, 525, 526, 527, 528, 529, 530, 531, 532, 533, 534, 535, 536, 537, 538, 539, 540, 541, 542, 543, 544] rfl yg_wsX8_becomes
set_option maxRecDepth 100000 in
theorem gX8_lawyer_X8_becomes : GoodIn wsX8_lawyer (wsV RX8 214 RX8 yX8_becomes wsX8_becomes) := goodIn_app (ygc yCe_wsX8_lawyer _ [268, 269, 270, 259] rfl rfl) ggX8_lawyer_X8_becomes
noncomputable def yC_wsX8_habit : List (List Cond) := [[.code yX8_habit cX8_habit 5 (some .int)], [.constantLong RX8 220 (10), .fieldLink RX8 7 "VowTerraceModel" "st" "[I", .methodLink RX8 205 yX8_isHouse, .instanceMethod yX8_isHouse, .selects RX8 yX8_isHouse yX8_isHouse, .initialized RX8, .code yX8_isHouse cX8_isHouse 2 (some .boolean), .fieldLink RX8 79 "VowTerraceModel" "houses" "I", .methodLink RX8 90 yX8_in, .static yX8_in, .code yX8_in cX8_in 6 (some .boolean), .methodLink RX8 217 yX8_isKind, .static yX8_isKind, .code yX8_isKind cX8_isKind 1 (some .boolean), .constantLong RX8 193 (4), .methodLink RX8 209 yX8_isDeed, .instanceMethod yX8_isDeed, .selects RX8 yX8_isDeed yX8_isDeed, .code yX8_isDeed cX8_isDeed 2 (some .boolean), .fieldLink RX8 85 "VowTerraceModel" "deeds" "I", .methodLink RX8 214 yX8_becomes, .instanceMethod yX8_becomes, .selects RX8 yX8_becomes yX8_becomes, .code yX8_becomes cX8_becomes 4 (some .int)], wsX80]
set_option maxRecDepth 100000 in
theorem yCe_wsX8_habit : wsX8_habit = yC_wsX8_habit.flatten := rfl
set_option maxRecDepth 100000 in
theorem ggX8_habit_X8_isHouse : GoodIn wsX8_habit wsX8_isHouse := ygc yCe_wsX8_habit _ [262, 263, 264, 265, 261, 266, 512, 513, 514, 515, 516, 517, 518, 519, 520, 521, 522, 523, 524, 525, 526, 527, 528, 529, 530, 531, 532, 533, 534, 535, 536, 537, 538, 539, 540, 541, 542, 543, 544] rfl yg_wsX8_isHouse
set_option maxRecDepth 100000 in
theorem gX8_habit_X8_isHouse : GoodIn wsX8_habit (wsV RX8 205 RX8 yX8_isHouse wsX8_isHouse) := goodIn_app (ygc yCe_wsX8_habit _ [258, 259, 260, 261] rfl rfl) ggX8_habit_X8_isHouse
set_option maxRecDepth 100000 in
theorem yg_wsX8_isKind : wsX8_isKind.all goodWord = true := by decide +kernel
set_option maxRecDepth 100000 in
theorem ggX8_habit_X8_isKind : GoodIn wsX8_habit wsX8_isKind := ygc yCe_wsX8_habit _ [269, 270, 264, 265, 261, 266] rfl yg_wsX8_isKind
set_option maxRecDepth 100000 in
theorem gX8_habit_X8_isKind : GoodIn wsX8_habit (va_wsS RX8 217 yX8_isKind wsX8_isKind) := goodIn_app (ygc yCe_wsX8_habit _ [267, 268, 261] rfl rfl) ggX8_habit_X8_isKind
set_option maxRecDepth 100000 in
theorem ggX8_habit_X8_isDeed : GoodIn wsX8_habit wsX8_isDeed := ygc yCe_wsX8_habit _ [274, 275, 264, 265, 261, 266, 512, 513, 514, 515, 516, 517, 518, 519, 520, 521, 522, 523, 524, 525, 526, 527, 528, 529, 530, 531, 532, 533, 534, 535, 536, 537, 538, 539, 540, 541, 542, 543, 544] rfl yg_wsX8_isDeed
set_option maxRecDepth 100000 in
theorem gX8_habit_X8_isDeed : GoodIn wsX8_habit (wsV RX8 209 RX8 yX8_isDeed wsX8_isDeed) := goodIn_app (ygc yCe_wsX8_habit _ [271, 272, 273, 261] rfl rfl) ggX8_habit_X8_isDeed
set_option maxRecDepth 100000 in
theorem ggX8_habit_X8_in : GoodIn wsX8_habit wsX8_in := ygc yCe_wsX8_habit _ [266] rfl yg_wsX8_in
set_option maxRecDepth 100000 in
theorem gX8_habit_X8_in : GoodIn wsX8_habit (va_wsS RX8 90 yX8_in wsX8_in) := goodIn_app (ygc yCe_wsX8_habit _ [264, 265, 261] rfl rfl) ggX8_habit_X8_in
set_option maxRecDepth 100000 in
theorem ggX8_habit_X8_becomes : GoodIn wsX8_habit wsX8_becomes := ygc yCe_wsX8_habit _ [279, 257, 512, 513, 514, 515, 516, 517, 518, 519, 520, 521, 522, 523, 524, 525, 526, 527, 528, 529, 530, 531, 532, 533, 534, 535, 536, 537, 538, 539, 540, 541, 542, 543, 544] rfl yg_wsX8_becomes
set_option maxRecDepth 100000 in
theorem gX8_habit_X8_becomes : GoodIn wsX8_habit (wsV RX8 214 RX8 yX8_becomes wsX8_becomes) := goodIn_app (ygc yCe_wsX8_habit _ [276, 277, 278, 261] rfl rfl) ggX8_habit_X8_becomes
noncomputable def yC_wsX8_vows : List (List Cond) := [[.code yX8_vows cX8_vows 6 (some .int)], [.fieldLink RX8 7 "VowTerraceModel" "st" "[I", .methodLink RX8 205 yX8_isHouse, .instanceMethod yX8_isHouse, .selects RX8 yX8_isHouse yX8_isHouse, .initialized RX8, .code yX8_isHouse cX8_isHouse 2 (some .boolean), .fieldLink RX8 79 "VowTerraceModel" "houses" "I", .methodLink RX8 90 yX8_in, .static yX8_in, .code yX8_in cX8_in 6 (some .boolean), .methodLink RX8 217 yX8_isKind, .static yX8_isKind, .code yX8_isKind cX8_isKind 1 (some .boolean), .constantLong RX8 193 (4), .methodLink RX8 222 yX8_isDeep, .static yX8_isDeep, .code yX8_isDeep cX8_isDeep 1 (some .boolean), .constantLong RX8 195 (3), .methodLink RX8 209 yX8_isDeed, .instanceMethod yX8_isDeed, .selects RX8 yX8_isDeed yX8_isDeed, .code yX8_isDeed cX8_isDeed 2 (some .boolean), .fieldLink RX8 85 "VowTerraceModel" "deeds" "I"], wsX80]
set_option maxRecDepth 100000 in
theorem yCe_wsX8_vows : wsX8_vows = yC_wsX8_vows.flatten := rfl
set_option maxRecDepth 100000 in
theorem ggX8_vows_X8_isHouse : GoodIn wsX8_vows wsX8_isHouse := ygc yCe_wsX8_vows _ [261, 262, 263, 264, 260, 265, 512, 513, 514, 515, 516, 517, 518, 519, 520, 521, 522, 523, 524, 525, 526, 527, 528, 529, 530, 531, 532, 533, 534, 535, 536, 537, 538, 539, 540, 541, 542, 543, 544] rfl yg_wsX8_isHouse
set_option maxRecDepth 100000 in
theorem gX8_vows_X8_isHouse : GoodIn wsX8_vows (wsV RX8 205 RX8 yX8_isHouse wsX8_isHouse) := goodIn_app (ygc yCe_wsX8_vows _ [257, 258, 259, 260] rfl rfl) ggX8_vows_X8_isHouse
set_option maxRecDepth 100000 in
theorem ggX8_vows_X8_isKind : GoodIn wsX8_vows wsX8_isKind := ygc yCe_wsX8_vows _ [268, 269, 263, 264, 260, 265] rfl yg_wsX8_isKind
set_option maxRecDepth 100000 in
theorem gX8_vows_X8_isKind : GoodIn wsX8_vows (va_wsS RX8 217 yX8_isKind wsX8_isKind) := goodIn_app (ygc yCe_wsX8_vows _ [266, 267, 260] rfl rfl) ggX8_vows_X8_isKind
set_option maxRecDepth 100000 in
theorem yg_wsX8_isDeep : wsX8_isDeep.all goodWord = true := by decide +kernel
set_option maxRecDepth 100000 in
theorem ggX8_vows_X8_isDeep : GoodIn wsX8_vows wsX8_isDeep := ygc yCe_wsX8_vows _ [272, 273, 263, 264, 260, 265] rfl yg_wsX8_isDeep
set_option maxRecDepth 100000 in
theorem gX8_vows_X8_isDeep : GoodIn wsX8_vows (va_wsS RX8 222 yX8_isDeep wsX8_isDeep) := goodIn_app (ygc yCe_wsX8_vows _ [270, 271, 260] rfl rfl) ggX8_vows_X8_isDeep
set_option maxRecDepth 100000 in
theorem ggX8_vows_X8_isDeed : GoodIn wsX8_vows wsX8_isDeed := ygc yCe_wsX8_vows _ [277, 278, 263, 264, 260, 265, 512, 513, 514, 515, 516, 517, 518, 519, 520, 521, 522, 523, 524, 525, 526, 527, 528, 529, 530, 531, 532, 533, 534, 535, 536, 537, 538, 539, 540, 541, 542, 543, 544] rfl yg_wsX8_isDeed
set_option maxRecDepth 100000 in
theorem gX8_vows_X8_isDeed : GoodIn wsX8_vows (wsV RX8 209 RX8 yX8_isDeed wsX8_isDeed) := goodIn_app (ygc yCe_wsX8_vows _ [274, 275, 276, 260] rfl rfl) ggX8_vows_X8_isDeed
noncomputable def yC_wsX8_wish : List (List Cond) := [[.code yX8_wish cX8_wish 3 (some .int)], [.fieldLink RX8 7 "VowTerraceModel" "st" "[I", .methodLink RX8 205 yX8_isHouse, .instanceMethod yX8_isHouse, .selects RX8 yX8_isHouse yX8_isHouse, .initialized RX8, .code yX8_isHouse cX8_isHouse 2 (some .boolean), .fieldLink RX8 79 "VowTerraceModel" "houses" "I", .methodLink RX8 90 yX8_in, .static yX8_in, .code yX8_in cX8_in 6 (some .boolean), .methodLink RX8 209 yX8_isDeed, .instanceMethod yX8_isDeed, .selects RX8 yX8_isDeed yX8_isDeed, .code yX8_isDeed cX8_isDeed 2 (some .boolean), .fieldLink RX8 85 "VowTerraceModel" "deeds" "I"], wsX80]
set_option maxRecDepth 100000 in
theorem yCe_wsX8_wish : wsX8_wish = yC_wsX8_wish.flatten := rfl
set_option maxRecDepth 100000 in
theorem ggX8_wish_X8_isHouse : GoodIn wsX8_wish wsX8_isHouse := ygc yCe_wsX8_wish _ [261, 262, 263, 264, 260, 265, 512, 513, 514, 515, 516, 517, 518, 519, 520, 521, 522, 523, 524, 525, 526, 527, 528, 529, 530, 531, 532, 533, 534, 535, 536, 537, 538, 539, 540, 541, 542, 543, 544] rfl yg_wsX8_isHouse
set_option maxRecDepth 100000 in
theorem gX8_wish_X8_isHouse : GoodIn wsX8_wish (wsV RX8 205 RX8 yX8_isHouse wsX8_isHouse) := goodIn_app (ygc yCe_wsX8_wish _ [257, 258, 259, 260] rfl rfl) ggX8_wish_X8_isHouse
set_option maxRecDepth 100000 in
theorem ggX8_wish_X8_isDeed : GoodIn wsX8_wish wsX8_isDeed := ygc yCe_wsX8_wish _ [269, 270, 263, 264, 260, 265, 512, 513, 514, 515, 516, 517, 518, 519, 520, 521, 522, 523, 524, 525, 526, 527, 528, 529, 530, 531, 532, 533, 534, 535, 536, 537, 538, 539, 540, 541, 542, 543, 544] rfl yg_wsX8_isDeed
set_option maxRecDepth 100000 in
theorem gX8_wish_X8_isDeed : GoodIn wsX8_wish (wsV RX8 209 RX8 yX8_isDeed wsX8_isDeed) := goodIn_app (ygc yCe_wsX8_wish _ [266, 267, 268, 260] rfl rfl) ggX8_wish_X8_isDeed
noncomputable def yC_wsX8_drop : List (List Cond) := [[.code yX8_drop cX8_drop 4 (some .int)], [.fieldLink RX8 7 "VowTerraceModel" "st" "[I", .methodLink RX8 90 yX8_in, .static yX8_in, .initialized RX8, .code yX8_in cX8_in 6 (some .boolean), .methodLink RX8 214 yX8_becomes, .instanceMethod yX8_becomes, .selects RX8 yX8_becomes yX8_becomes, .code yX8_becomes cX8_becomes 4 (some .int)], wsX80]
set_option maxRecDepth 100000 in
theorem yCe_wsX8_drop : wsX8_drop = yC_wsX8_drop.flatten := rfl
set_option maxRecDepth 100000 in
theorem ggX8_drop_X8_in : GoodIn wsX8_drop wsX8_in := ygc yCe_wsX8_drop _ [260] rfl yg_wsX8_in
set_option maxRecDepth 100000 in
theorem gX8_drop_X8_in : GoodIn wsX8_drop (va_wsS RX8 90 yX8_in wsX8_in) := goodIn_app (ygc yCe_wsX8_drop _ [257, 258, 259] rfl rfl) ggX8_drop_X8_in
set_option maxRecDepth 100000 in
theorem ggX8_drop_X8_becomes : GoodIn wsX8_drop wsX8_becomes := ygc yCe_wsX8_drop _ [264, 256, 512, 513, 514, 515, 516, 517, 518, 519, 520, 521, 522, 523, 524, 525, 526, 527, 528, 529, 530, 531, 532, 533, 534, 535, 536, 537, 538, 539, 540, 541, 542, 543, 544] rfl yg_wsX8_becomes
set_option maxRecDepth 100000 in
theorem gX8_drop_X8_becomes : GoodIn wsX8_drop (wsV RX8 214 RX8 yX8_becomes wsX8_becomes) := goodIn_app (ygc yCe_wsX8_drop _ [261, 262, 263, 259] rfl rfl) ggX8_drop_X8_becomes
set_option maxRecDepth 100000 in
theorem yg_wsX8_swaps : wsX8_swaps.all goodWord = true := by decide +kernel
set_option maxRecDepth 100000 in
theorem ggX8_moves_X8_swaps : GoodIn wsX8_moves wsX8_swaps := goodIn_r _ [5, 6, 7, 8, 9, 10, 11, 12, 13, 14, 15, 16, 17, 18, 19, 20, 21, 22, 23, 24, 25, 26, 27, 28, 29, 30, 31, 32, 33, 34, 35, 36, 37, 38, 39] rfl yg_wsX8_swaps
set_option maxRecDepth 100000 in
theorem gX8_moves_X8_swaps : GoodIn wsX8_moves (wsV RX8 225 RX8 yX8_swaps wsX8_swaps) := goodIn_app (goodIn_r _ [1, 2, 3, 4] rfl rfl) ggX8_moves_X8_swaps
noncomputable def yC_wsX8_move : List (List Cond) := [[.code yX8_move cX8_move 3 (some .int)], [.fieldLink RX8 7 "VowTerraceModel" "st" "[I", .methodLink RX8 205 yX8_isHouse, .instanceMethod yX8_isHouse, .selects RX8 yX8_isHouse yX8_isHouse, .initialized RX8, .code yX8_isHouse cX8_isHouse 2 (some .boolean), .fieldLink RX8 79 "VowTerraceModel" "houses" "I", .methodLink RX8 90 yX8_in, .static yX8_in, .code yX8_in cX8_in 6 (some .boolean), .methodLink RX8 229 yX8_moves, .instanceMethod yX8_moves, .selects RX8 yX8_moves yX8_moves, .code yX8_moves cX8_moves 3 none, .methodLink RX8 225 yX8_swaps, .instanceMethod yX8_swaps, .selects RX8 yX8_swaps yX8_swaps, .code yX8_swaps cX8_swaps 5 none, .methodLink RX8 233 yX8_bitsOf, .static yX8_bitsOf, .code yX8_bitsOf cX8_bitsOf 3 (some .int)], wsX80]
set_option maxRecDepth 100000 in
theorem yCe_wsX8_move : wsX8_move = yC_wsX8_move.flatten := rfl
set_option maxRecDepth 100000 in
theorem ggX8_move_X8_isHouse : GoodIn wsX8_move wsX8_isHouse := ygc yCe_wsX8_move _ [261, 262, 263, 264, 260, 265, 512, 513, 514, 515, 516, 517, 518, 519, 520, 521, 522, 523, 524, 525, 526, 527, 528, 529, 530, 531, 532, 533, 534, 535, 536, 537, 538, 539, 540, 541, 542, 543, 544] rfl yg_wsX8_isHouse
set_option maxRecDepth 100000 in
theorem gX8_move_X8_isHouse : GoodIn wsX8_move (wsV RX8 205 RX8 yX8_isHouse wsX8_isHouse) := goodIn_app (ygc yCe_wsX8_move _ [257, 258, 259, 260] rfl rfl) ggX8_move_X8_isHouse
set_option maxRecDepth 100000 in
theorem yg_wsX8_moves : wsX8_moves.all goodWord = true := by decide +kernel
set_option maxRecDepth 100000 in
theorem ggX8_move_X8_moves : GoodIn wsX8_move wsX8_moves := ygc yCe_wsX8_move _ [269, 270, 271, 272, 260, 273, 256, 512, 513, 514, 515, 516, 517, 518, 519, 520, 521, 522, 523, 524, 525, 526, 527, 528, 529, 530, 531, 532, 533, 534, 535, 536, 537, 538, 539, 540, 541, 542, 543, 544] rfl yg_wsX8_moves
set_option maxRecDepth 100000 in
theorem gX8_move_X8_moves : GoodIn wsX8_move (wsV RX8 229 RX8 yX8_moves wsX8_moves) := goodIn_app (ygc yCe_wsX8_move _ [266, 267, 268, 260] rfl rfl) ggX8_move_X8_moves
set_option maxRecDepth 100000 in
theorem yg_wsX8_bitsOf : wsX8_bitsOf.all goodWord = true := by decide +kernel
set_option maxRecDepth 100000 in
theorem ggX8_move_X8_bitsOf : GoodIn wsX8_move wsX8_bitsOf := ygc yCe_wsX8_move _ [276] rfl yg_wsX8_bitsOf
set_option maxRecDepth 100000 in
theorem gX8_move_X8_bitsOf : GoodIn wsX8_move (va_wsS RX8 233 yX8_bitsOf wsX8_bitsOf) := goodIn_app (ygc yCe_wsX8_move _ [274, 275, 260] rfl rfl) ggX8_move_X8_bitsOf
set_option maxRecDepth 100000 in
theorem ggX8_off_X8_in : GoodIn wsX8_off wsX8_in := goodIn_r _ [6] rfl yg_wsX8_in
set_option maxRecDepth 100000 in
theorem gX8_off_X8_in : GoodIn wsX8_off (va_wsS RX8 90 yX8_in wsX8_in) := goodIn_app (goodIn_r _ [3, 4, 5] rfl rfl) ggX8_off_X8_in
noncomputable def yC_wsX8_does : List (List Cond) := [[.code yX8_does cX8_does 5 none], [.fieldLink RX8 13 "VowTerraceModel" "at" "[I", .fieldLink RX8 20 "VowTerraceModel" "costs" "[I", .fieldLink RX8 239 "VowTerraceModel" "didMany" "I", .methodLink RX8 197 yX8_flag, .static yX8_flag, .initialized RX8, .code yX8_flag cX8_flag 1 (some .int)], wsX80]
set_option maxRecDepth 100000 in
theorem yCe_wsX8_does : wsX8_does = yC_wsX8_does.flatten := rfl
set_option maxRecDepth 100000 in
theorem ggX8_does_X8_flag : GoodIn wsX8_does wsX8_flag := ygc yCe_wsX8_does _ [262] rfl yg_wsX8_flag
set_option maxRecDepth 100000 in
theorem gX8_does_X8_flag : GoodIn wsX8_does (va_wsS RX8 197 yX8_flag wsX8_flag) := goodIn_app (ygc yCe_wsX8_does _ [259, 260, 261] rfl rfl) ggX8_does_X8_flag
set_option maxRecDepth 100000 in
theorem yg_wsX8_comes : wsX8_comes.all goodWord = true := by decide +kernel
noncomputable def yC_wsX8_falls : List (List Cond) := [[.code yX8_falls cX8_falls 5 none], [.fieldLink RX8 13 "VowTerraceModel" "at" "[I", .methodLink RX8 242 yX8_comes, .instanceMethod yX8_comes, .selects RX8 yX8_comes yX8_comes, .initialized RX8, .code yX8_comes cX8_comes 5 none, .fieldLink RX8 236 "VowTerraceModel" "freshMany" "I", .fieldLink RX8 35 "VowTerraceModel" "fresh" "[I", .methodLink RX8 246 yX8_does, .instanceMethod yX8_does, .selects RX8 yX8_does yX8_does, .code yX8_does cX8_does 5 none, .fieldLink RX8 20 "VowTerraceModel" "costs" "[I", .fieldLink RX8 239 "VowTerraceModel" "didMany" "I", .methodLink RX8 197 yX8_flag, .static yX8_flag, .code yX8_flag cX8_flag 1 (some .int)], wsX80]
set_option maxRecDepth 100000 in
theorem yCe_wsX8_falls : wsX8_falls = yC_wsX8_falls.flatten := rfl
set_option maxRecDepth 100000 in
theorem ggX8_falls_X8_comes : GoodIn wsX8_falls wsX8_comes := ygc yCe_wsX8_falls _ [261, 262, 256, 263, 512, 513, 514, 515, 516, 517, 518, 519, 520, 521, 522, 523, 524, 525, 526, 527, 528, 529, 530, 531, 532, 533, 534, 535, 536, 537, 538, 539, 540, 541, 542, 543, 544] rfl yg_wsX8_comes
set_option maxRecDepth 100000 in
theorem gX8_falls_X8_comes : GoodIn wsX8_falls (wsV RX8 242 RX8 yX8_comes wsX8_comes) := goodIn_app (ygc yCe_wsX8_falls _ [257, 258, 259, 260] rfl rfl) ggX8_falls_X8_comes
set_option maxRecDepth 100000 in
theorem yg_wsX8_does : wsX8_does.all goodWord = true := by decide +kernel
set_option maxRecDepth 100000 in
theorem ggX8_falls_X8_does : GoodIn wsX8_falls wsX8_does := ygc yCe_wsX8_falls _ [267, 256, 268, 269, 270, 271, 260, 272, 512, 513, 514, 515, 516, 517, 518, 519, 520, 521, 522, 523, 524, 525, 526, 527, 528, 529, 530, 531, 532, 533, 534, 535, 536, 537, 538, 539, 540, 541, 542, 543, 544] rfl yg_wsX8_does
set_option maxRecDepth 100000 in
theorem gX8_falls_X8_does : GoodIn wsX8_falls (wsV RX8 246 RX8 yX8_does wsX8_does) := goodIn_app (ygc yCe_wsX8_falls _ [264, 265, 266, 260] rfl rfl) ggX8_falls_X8_does
set_option maxRecDepth 100000 in
theorem yg_wsX8_fallsOf : wsX8_fallsOf.all goodWord = true := by decide +kernel
noncomputable def yC_wsX8_days : List (List Cond) := [[.code yX8_days cX8_days 4 none], wsX8_days_r1, wsX8_days_r2, wsX80]
set_option maxRecDepth 100000 in
theorem yCe_wsX8_days : wsX8_days = yC_wsX8_days.flatten := rfl
set_option maxRecDepth 100000 in
theorem ggX8_days_X8_fallsOf : GoodIn wsX8_days wsX8_fallsOf := ygc yCe_wsX8_days _ [262] rfl yg_wsX8_fallsOf
set_option maxRecDepth 100000 in
theorem gX8_days_X8_fallsOf : GoodIn wsX8_days (va_wsS RX8 249 yX8_fallsOf wsX8_fallsOf) := goodIn_app (ygc yCe_wsX8_days _ [259, 260, 261] rfl rfl) ggX8_days_X8_fallsOf
set_option maxRecDepth 100000 in
theorem yg_wsX8_byOf : wsX8_byOf.all goodWord = true := by decide +kernel
set_option maxRecDepth 100000 in
theorem ggX8_days_X8_byOf : GoodIn wsX8_days wsX8_byOf := ygc yCe_wsX8_days _ [265] rfl yg_wsX8_byOf
set_option maxRecDepth 100000 in
theorem gX8_days_X8_byOf : GoodIn wsX8_days (va_wsS RX8 252 yX8_byOf wsX8_byOf) := goodIn_app (ygc yCe_wsX8_days _ [263, 264, 261] rfl rfl) ggX8_days_X8_byOf
set_option maxRecDepth 100000 in
theorem yg_wsX8_off : wsX8_off.all goodWord = true := by decide +kernel
set_option maxRecDepth 100000 in
theorem ggX8_days_X8_off : GoodIn wsX8_days wsX8_off := ygc yCe_wsX8_days _ [269, 270, 271, 272, 273, 261, 274, 768, 769, 770, 771, 772, 773, 774, 775, 776, 777, 778, 779, 780, 781, 782, 783, 784, 785, 786, 787, 788, 789, 790, 791, 792, 793, 794, 795, 796, 797, 798, 799, 800] rfl yg_wsX8_off
set_option maxRecDepth 100000 in
theorem gX8_days_X8_off : GoodIn wsX8_days (wsV RX8 255 RX8 yX8_off wsX8_off) := goodIn_app (ygc yCe_wsX8_days _ [266, 267, 268, 261] rfl rfl) ggX8_days_X8_off
set_option maxRecDepth 100000 in
theorem yg_wsX8_falls : wsX8_falls.all goodWord = true := by decide +kernel
set_option maxRecDepth 100000 in
theorem ggX8_days_X8_falls : GoodIn wsX8_days wsX8_falls := ygc yCe_wsX8_days _ [278, 257, 279, 512, 513, 261, 514, 256, 258, 515, 516, 517, 518, 519, 520, 521, 522, 523, 768, 769, 770, 771, 772, 773, 774, 775, 776, 777, 778, 779, 780, 781, 782, 783, 784, 785, 786, 787, 788, 789, 790, 791, 792, 793, 794, 795, 796, 797, 798, 799, 800] rfl yg_wsX8_falls
set_option maxRecDepth 100000 in
theorem gX8_days_X8_falls : GoodIn wsX8_days (wsV RX8 258 RX8 yX8_falls wsX8_falls) := goodIn_app (ygc yCe_wsX8_days _ [275, 276, 277, 261] rfl rfl) ggX8_days_X8_falls
set_option maxRecDepth 100000 in
theorem yg_wsX8_days : wsX8_days.all goodWord = true := by decide +kernel
noncomputable def yC_wsX8_daysAll : List (List Cond) := [[.code yX8_daysAll cX8_daysAll 3 none], wsX8_daysAll_r1, wsX8_daysAll_r2, wsX80]
set_option maxRecDepth 100000 in
theorem yCe_wsX8_daysAll : wsX8_daysAll = yC_wsX8_daysAll.flatten := rfl
set_option maxRecDepth 100000 in
theorem ggX8_daysAll_X8_days : GoodIn wsX8_daysAll wsX8_days := ygc yCe_wsX8_daysAll _ [261, 262, 263, 264, 265, 266, 260, 267, 268, 269, 270, 271, 272, 273, 274, 275, 276, 277, 278, 279, 512, 513, 514, 515, 516, 517, 518, 519, 520, 521, 522, 523, 524, 256, 525, 526, 527, 768, 769, 770, 771, 772, 773, 774, 775, 776, 777, 778, 779, 780, 781, 782, 783, 784, 785, 786, 787, 788, 789, 790, 791, 792, 793, 794, 795, 796, 797, 798, 799, 800] rfl yg_wsX8_days
set_option maxRecDepth 100000 in
theorem gX8_daysAll_X8_days : GoodIn wsX8_daysAll (wsV RX8 261 RX8 yX8_days wsX8_days) := goodIn_app (ygc yCe_wsX8_daysAll _ [257, 258, 259, 260] rfl rfl) ggX8_daysAll_X8_days
noncomputable def yC_wsX8_go : List (List Cond) := [[.code yX8_go cX8_go 3 (some .int)], wsX8_go_r1, wsX8_go_r2, wsX8_go_r3, wsX80]
set_option maxRecDepth 100000 in
theorem yCe_wsX8_go : wsX8_go = yC_wsX8_go.flatten := rfl
set_option maxRecDepth 100000 in
theorem ggX8_go_X8_in : GoodIn wsX8_go wsX8_in := ygc yCe_wsX8_go _ [263] rfl yg_wsX8_in
set_option maxRecDepth 100000 in
theorem gX8_go_X8_in : GoodIn wsX8_go (va_wsS RX8 90 yX8_in wsX8_in) := goodIn_app (ygc yCe_wsX8_go _ [260, 261, 262] rfl rfl) ggX8_go_X8_in
set_option maxRecDepth 100000 in
theorem yg_wsX8_starts : wsX8_starts.all goodWord = true := by decide +kernel
set_option maxRecDepth 100000 in
theorem ggX8_go_X8_starts : GoodIn wsX8_go wsX8_starts := ygc yCe_wsX8_go _ [267, 258, 257, 1024, 1025, 1026, 1027, 1028, 1029, 1030, 1031, 1032, 1033, 1034, 1035, 1036, 1037, 1038, 1039, 1040, 1041, 1042, 1043, 1044, 1045, 1046, 1047, 1048, 1049, 1050, 1051, 1052, 1053, 1054, 1055, 1056] rfl yg_wsX8_starts
set_option maxRecDepth 100000 in
theorem gX8_go_X8_starts : GoodIn wsX8_go (wsV RX8 266 RX8 yX8_starts wsX8_starts) := goodIn_app (ygc yCe_wsX8_go _ [264, 265, 266, 262] rfl rfl) ggX8_go_X8_starts
set_option maxRecDepth 100000 in
theorem yg_wsX8_daysAll : wsX8_daysAll.all goodWord = true := by decide +kernel
set_option maxRecDepth 100000 in
theorem ggX8_go_X8_daysAll : GoodIn wsX8_go wsX8_daysAll := ygc yCe_wsX8_go _ [271, 259, 272, 273, 274, 262, 275, 276, 258, 277, 278, 279, 512, 513, 514, 515, 516, 517, 518, 519, 520, 521, 260, 261, 263, 522, 523, 524, 525, 526, 527, 528, 529, 530, 531, 532, 533, 534, 535, 768, 769, 1024, 1025, 1026, 1027, 1028, 1029, 1030, 1031, 1032, 1033, 1034, 1035, 1036, 1037, 1038, 1039, 1040, 1041, 1042, 1043, 1044, 1045, 1046, 1047, 1048, 1049, 1050, 1051, 1052, 1053, 1054, 1055, 1056] rfl yg_wsX8_daysAll
set_option maxRecDepth 100000 in
theorem gX8_go_X8_daysAll : GoodIn wsX8_go (wsV RX8 269 RX8 yX8_daysAll wsX8_daysAll) := goodIn_app (ygc yCe_wsX8_go _ [268, 269, 270, 262] rfl rfl) ggX8_go_X8_daysAll
noncomputable def yC_wsX8_ahead : List (List Cond) := [[.code yX8_ahead cX8_ahead 4 (some .int)], wsX8_ahead_r1, wsX8_ahead_r2, wsX8_ahead_r3, wsX80]
set_option maxRecDepth 100000 in
theorem yCe_wsX8_ahead : wsX8_ahead = yC_wsX8_ahead.flatten := rfl
set_option maxRecDepth 100000 in
theorem ggX8_ahead_X8_isHouse : GoodIn wsX8_ahead wsX8_isHouse := ygc yCe_wsX8_ahead _ [262, 263, 264, 265, 261, 266, 1024, 1025, 1026, 1027, 1028, 1029, 1030, 1031, 1032, 1033, 1034, 1035, 1036, 1037, 1038, 1039, 1040, 1041, 1042, 1043, 1044, 1045, 1046, 1047, 1048, 1049, 1050, 1051, 1052, 1053, 1054, 1055, 1056] rfl yg_wsX8_isHouse
set_option maxRecDepth 100000 in
theorem gX8_ahead_X8_isHouse : GoodIn wsX8_ahead (wsV RX8 205 RX8 yX8_isHouse wsX8_isHouse) := goodIn_app (ygc yCe_wsX8_ahead _ [258, 259, 260, 261] rfl rfl) ggX8_ahead_X8_isHouse
set_option maxRecDepth 100000 in
theorem ggX8_ahead_X8_isDeed : GoodIn wsX8_ahead wsX8_isDeed := ygc yCe_wsX8_ahead _ [270, 271, 264, 265, 261, 266, 1024, 1025, 1026, 1027, 1028, 1029, 1030, 1031, 1032, 1033, 1034, 1035, 1036, 1037, 1038, 1039, 1040, 1041, 1042, 1043, 1044, 1045, 1046, 1047, 1048, 1049, 1050, 1051, 1052, 1053, 1054, 1055, 1056] rfl yg_wsX8_isDeed
set_option maxRecDepth 100000 in
theorem gX8_ahead_X8_isDeed : GoodIn wsX8_ahead (wsV RX8 209 RX8 yX8_isDeed wsX8_isDeed) := goodIn_app (ygc yCe_wsX8_ahead _ [267, 268, 269, 261] rfl rfl) ggX8_ahead_X8_isDeed
set_option maxRecDepth 100000 in
theorem ggX8_ahead_X8_in : GoodIn wsX8_ahead wsX8_in := ygc yCe_wsX8_ahead _ [266] rfl yg_wsX8_in
set_option maxRecDepth 100000 in
theorem gX8_ahead_X8_in : GoodIn wsX8_ahead (va_wsS RX8 90 yX8_in wsX8_in) := goodIn_app (ygc yCe_wsX8_ahead _ [264, 265, 261] rfl rfl) ggX8_ahead_X8_in
set_option maxRecDepth 100000 in
theorem ggX8_ahead_X8_starts : GoodIn wsX8_ahead wsX8_starts := ygc yCe_wsX8_ahead _ [275, 257, 276, 1024, 1025, 1026, 1027, 1028, 1029, 1030, 1031, 1032, 1033, 1034, 1035, 1036, 1037, 1038, 1039, 1040, 1041, 1042, 1043, 1044, 1045, 1046, 1047, 1048, 1049, 1050, 1051, 1052, 1053, 1054, 1055, 1056] rfl yg_wsX8_starts
set_option maxRecDepth 100000 in
theorem gX8_ahead_X8_starts : GoodIn wsX8_ahead (wsV RX8 266 RX8 yX8_starts wsX8_starts) := goodIn_app (ygc yCe_wsX8_ahead _ [272, 273, 274, 261] rfl rfl) ggX8_ahead_X8_starts
set_option maxRecDepth 100000 in
theorem ggX8_ahead_X8_daysAll : GoodIn wsX8_ahead wsX8_daysAll := ygc yCe_wsX8_ahead _ [512, 513, 514, 515, 516, 261, 517, 518, 257, 519, 520, 521, 522, 523, 524, 525, 526, 527, 528, 529, 530, 263, 264, 265, 266, 531, 532, 533, 534, 535, 768, 769, 770, 771, 772, 773, 774, 775, 776, 777, 778, 1024, 1025, 1026, 1027, 1028, 1029, 1030, 1031, 1032, 1033, 1034, 1035, 1036, 1037, 1038, 1039, 1040, 1041, 1042, 1043, 1044, 1045, 1046, 1047, 1048, 1049, 1050, 1051, 1052, 1053, 1054, 1055, 1056] rfl yg_wsX8_daysAll
set_option maxRecDepth 100000 in
theorem gX8_ahead_X8_daysAll : GoodIn wsX8_ahead (wsV RX8 269 RX8 yX8_daysAll wsX8_daysAll) := goodIn_app (ygc yCe_wsX8_ahead _ [277, 278, 279, 261] rfl rfl) ggX8_ahead_X8_daysAll
noncomputable def yC_wsX8_rest : List (List Cond) := [[.code yX8_rest cX8_rest 2 (some .int)], wsX8_rest_r1, wsX8_rest_r2, wsX80]
set_option maxRecDepth 100000 in
theorem yCe_wsX8_rest : wsX8_rest = yC_wsX8_rest.flatten := rfl
set_option maxRecDepth 100000 in
theorem ggX8_rest_X8_starts : GoodIn wsX8_rest wsX8_starts := ygc yCe_wsX8_rest _ [261, 256, 262, 768, 769, 770, 771, 772, 773, 774, 775, 776, 777, 778, 779, 780, 781, 782, 783, 784, 785, 786, 787, 788, 789, 790, 791, 792, 793, 794, 795, 796, 797, 798, 799, 800] rfl yg_wsX8_starts
set_option maxRecDepth 100000 in
theorem gX8_rest_X8_starts : GoodIn wsX8_rest (wsV RX8 266 RX8 yX8_starts wsX8_starts) := goodIn_app (ygc yCe_wsX8_rest _ [257, 258, 259, 260] rfl rfl) ggX8_rest_X8_starts
set_option maxRecDepth 100000 in
theorem ggX8_rest_X8_days : GoodIn wsX8_rest wsX8_days := ygc yCe_wsX8_rest _ [266, 267, 256, 268, 269, 270, 260, 271, 272, 273, 274, 275, 276, 277, 278, 279, 512, 513, 514, 515, 516, 517, 518, 519, 520, 521, 522, 523, 524, 525, 526, 527, 528, 529, 530, 531, 532, 768, 769, 770, 771, 772, 773, 774, 775, 776, 777, 778, 779, 780, 781, 782, 783, 784, 785, 786, 787, 788, 789, 790, 791, 792, 793, 794, 795, 796, 797, 798, 799, 800] rfl yg_wsX8_days
set_option maxRecDepth 100000 in
theorem gX8_rest_X8_days : GoodIn wsX8_rest (wsV RX8 261 RX8 yX8_days wsX8_days) := goodIn_app (ygc yCe_wsX8_rest _ [263, 264, 265, 260] rfl rfl) ggX8_rest_X8_days
noncomputable def yC_wsX8_fallen : List (List Cond) := [[.code yX8_fallen cX8_fallen 8 (some .int)], [.fieldLink RX8 79 "VowTerraceModel" "houses" "I", .methodLink RX8 249 yX8_fallsOf, .static yX8_fallsOf, .initialized RX8, .code yX8_fallsOf cX8_fallsOf 1 (some .int), .methodLink RX8 252 yX8_byOf, .static yX8_byOf, .code yX8_byOf cX8_byOf 2 (some .int), .methodLink RX8 255 yX8_off, .instanceMethod yX8_off, .selects RX8 yX8_off yX8_off, .code yX8_off cX8_off 4 (some .int), .fieldLink RX8 82 "VowTerraceModel" "isRing" "Z", .methodLink RX8 90 yX8_in, .static yX8_in, .code yX8_in cX8_in 6 (some .boolean), .methodLink RX8 197 yX8_flag, .static yX8_flag, .code yX8_flag cX8_flag 1 (some .int)], wsX80]
set_option maxRecDepth 100000 in
theorem yCe_wsX8_fallen : wsX8_fallen = yC_wsX8_fallen.flatten := rfl
set_option maxRecDepth 100000 in
theorem ggX8_fallen_X8_fallsOf : GoodIn wsX8_fallen wsX8_fallsOf := ygc yCe_wsX8_fallen _ [260] rfl yg_wsX8_fallsOf
set_option maxRecDepth 100000 in
theorem gX8_fallen_X8_fallsOf : GoodIn wsX8_fallen (va_wsS RX8 249 yX8_fallsOf wsX8_fallsOf) := goodIn_app (ygc yCe_wsX8_fallen _ [257, 258, 259] rfl rfl) ggX8_fallen_X8_fallsOf
set_option maxRecDepth 100000 in
theorem ggX8_fallen_X8_byOf : GoodIn wsX8_fallen wsX8_byOf := ygc yCe_wsX8_fallen _ [263] rfl yg_wsX8_byOf
set_option maxRecDepth 100000 in
theorem gX8_fallen_X8_byOf : GoodIn wsX8_fallen (va_wsS RX8 252 yX8_byOf wsX8_byOf) := goodIn_app (ygc yCe_wsX8_fallen _ [261, 262, 259] rfl rfl) ggX8_fallen_X8_byOf
set_option maxRecDepth 100000 in
theorem ggX8_fallen_X8_off : GoodIn wsX8_fallen wsX8_off := ygc yCe_wsX8_fallen _ [267, 268, 256, 269, 270, 259, 271, 512, 513, 514, 515, 516, 517, 518, 519, 520, 521, 522, 523, 524, 525, 526, 527, 528, 529, 530, 531, 532, 533, 534, 535, 536, 537, 538, 539, 540, 541, 542, 543, 544] rfl yg_wsX8_off
set_option maxRecDepth 100000 in
theorem gX8_fallen_X8_off : GoodIn wsX8_fallen (wsV RX8 255 RX8 yX8_off wsX8_off) := goodIn_app (ygc yCe_wsX8_fallen _ [264, 265, 266, 259] rfl rfl) ggX8_fallen_X8_off
set_option maxRecDepth 100000 in
theorem ggX8_fallen_X8_flag : GoodIn wsX8_fallen wsX8_flag := ygc yCe_wsX8_fallen _ [274] rfl yg_wsX8_flag
set_option maxRecDepth 100000 in
theorem gX8_fallen_X8_flag : GoodIn wsX8_fallen (va_wsS RX8 197 yX8_flag wsX8_flag) := goodIn_app (ygc yCe_wsX8_fallen _ [272, 273, 259] rfl rfl) ggX8_fallen_X8_flag
set_option maxRecDepth 100000 in
theorem yg_wsX8_lawyersNow : wsX8_lawyersNow.all goodWord = true := by decide +kernel
noncomputable def yC_wsX8_endsAt : List (List Cond) := [[.code yX8_endsAt cX8_endsAt 6 (some .int)], wsX8_endsAt_r1, wsX8_endsAt_r2, wsX80]
set_option maxRecDepth 100000 in
theorem yCe_wsX8_endsAt : wsX8_endsAt = yC_wsX8_endsAt.flatten := rfl
set_option maxRecDepth 100000 in
theorem ggX8_endsAt_X8_lawyersNow : GoodIn wsX8_endsAt wsX8_lawyersNow := ygc yCe_wsX8_endsAt _ [260, 261, 262, 768, 769, 770, 771, 772, 773, 774, 775, 776, 777, 778, 779, 780, 781, 782, 783, 784, 785, 786, 787, 788, 789, 790, 791, 792, 793, 794, 795, 796, 797, 798, 799, 800] rfl yg_wsX8_lawyersNow
set_option maxRecDepth 100000 in
theorem gX8_endsAt_X8_lawyersNow : GoodIn wsX8_endsAt (wsV RX8 272 RX8 yX8_lawyersNow wsX8_lawyersNow) := goodIn_app (ygc yCe_wsX8_endsAt _ [256, 257, 258, 259] rfl rfl) ggX8_endsAt_X8_lawyersNow
set_option maxRecDepth 100000 in
theorem yg_wsX8_fallen : wsX8_fallen.all goodWord = true := by decide +kernel
set_option maxRecDepth 100000 in
theorem ggX8_endsAt_X8_fallen : GoodIn wsX8_endsAt wsX8_fallen := ygc yCe_wsX8_endsAt _ [266, 261, 267, 268, 259, 269, 270, 271, 272, 273, 274, 275, 276, 277, 278, 279, 512, 513, 514, 515, 768, 769, 770, 771, 772, 773, 774, 775, 776, 777, 778, 779, 780, 781, 782, 783, 784, 785, 786, 787, 788, 789, 790, 791, 792, 793, 794, 795, 796, 797, 798, 799, 800] rfl yg_wsX8_fallen
set_option maxRecDepth 100000 in
theorem gX8_endsAt_X8_fallen : GoodIn wsX8_endsAt (wsV RX8 275 RX8 yX8_fallen wsX8_fallen) := goodIn_app (ygc yCe_wsX8_endsAt _ [263, 264, 265, 259] rfl rfl) ggX8_endsAt_X8_fallen
set_option maxRecDepth 100000 in
theorem yg_wsX8_endsAt : wsX8_endsAt.all goodWord = true := by decide +kernel
noncomputable def yC_wsX8_doesBring : List (List Cond) := [[.code yX8_doesBring cX8_doesBring 6 (some .boolean)], wsX8_doesBring_r1, wsX8_doesBring_r2, wsX80]
set_option maxRecDepth 100000 in
theorem yCe_wsX8_doesBring : wsX8_doesBring = yC_wsX8_doesBring.flatten := rfl
set_option maxRecDepth 100000 in
theorem ggX8_doesBring_X8_endsAt : GoodIn wsX8_doesBring wsX8_endsAt := ygc yCe_wsX8_doesBring _ [261, 262, 263, 264, 260, 265, 266, 256, 267, 268, 269, 270, 271, 272, 273, 274, 275, 276, 277, 278, 279, 512, 513, 514, 515, 516, 517, 518, 519, 768, 769, 770, 771, 772, 773, 774, 775, 776, 777, 778, 779, 780, 781, 782, 783, 784, 785, 786, 787, 788, 789, 790, 791, 792, 793, 794, 795, 796, 797, 798, 799, 800] rfl yg_wsX8_endsAt
set_option maxRecDepth 100000 in
theorem gX8_doesBring_X8_endsAt : GoodIn wsX8_doesBring (wsV RX8 279 RX8 yX8_endsAt wsX8_endsAt) := goodIn_app (ygc yCe_wsX8_doesBring _ [257, 258, 259, 260] rfl rfl) ggX8_doesBring_X8_endsAt
set_option maxRecDepth 100000 in
theorem yg_wsX8_doesBring : wsX8_doesBring.all goodWord = true := by decide +kernel
noncomputable def yC_wsX8_findCovers : List (List Cond) := [[.code yX8_findCovers cX8_findCovers 6 none], wsX8_findCovers_r1, wsX8_findCovers_r2, wsX80]
set_option maxRecDepth 100000 in
theorem yCe_wsX8_findCovers : wsX8_findCovers = yC_wsX8_findCovers.flatten := rfl
set_option maxRecDepth 100000 in
theorem ggX8_findCovers_X8_doesBring : GoodIn wsX8_findCovers wsX8_doesBring := ygc yCe_wsX8_findCovers _ [264, 257, 265, 266, 267, 263, 268, 269, 270, 271, 272, 258, 273, 274, 275, 276, 277, 278, 279, 512, 513, 514, 515, 516, 517, 518, 519, 520, 521, 522, 523, 524, 525, 768, 769, 770, 771, 772, 773, 774, 775, 776, 777, 778, 779, 780, 781, 782, 783, 784, 785, 786, 787, 788, 789, 790, 791, 792, 793, 794, 795, 796, 797, 798, 799, 800] rfl yg_wsX8_doesBring
set_option maxRecDepth 100000 in
theorem gX8_findCovers_X8_doesBring : GoodIn wsX8_findCovers (wsV RX8 282 RX8 yX8_doesBring wsX8_doesBring) := goodIn_app (ygc yCe_wsX8_findCovers _ [260, 261, 262, 263] rfl rfl) ggX8_findCovers_X8_doesBring
set_option maxRecDepth 100000 in
theorem ggX8_findCovers_X8_flag : GoodIn wsX8_findCovers wsX8_flag := ygc yCe_wsX8_findCovers _ [525] rfl yg_wsX8_flag
set_option maxRecDepth 100000 in
theorem gX8_findCovers_X8_flag : GoodIn wsX8_findCovers (va_wsS RX8 197 yX8_flag wsX8_flag) := goodIn_app (ygc yCe_wsX8_findCovers _ [523, 524, 263] rfl rfl) ggX8_findCovers_X8_flag
set_option maxRecDepth 100000 in
theorem yg_wsX8_findCovers : wsX8_findCovers.all goodWord = true := by decide +kernel
noncomputable def yC_wsX8_findFewest : List (List Cond) := [[.code yX8_findFewest cX8_findFewest 6 none], wsX8_findFewest_r1, wsX8_findFewest_r2, wsX80]
set_option maxRecDepth 100000 in
theorem yCe_wsX8_findFewest : wsX8_findFewest = yC_wsX8_findFewest.flatten := rfl
set_option maxRecDepth 100000 in
theorem ggX8_findFewest_X8_findCovers : GoodIn wsX8_findFewest wsX8_findCovers := ygc yCe_wsX8_findFewest _ [263, 258, 264, 265, 266, 267, 268, 269, 262, 270, 271, 272, 273, 274, 275, 276, 277, 278, 279, 512, 513, 514, 515, 516, 517, 518, 519, 520, 521, 522, 523, 524, 525, 526, 527, 528, 529, 530, 531, 768, 769, 770, 771, 772, 773, 774, 775, 776, 777, 778, 779, 780, 781, 782, 783, 784, 785, 786, 787, 788, 789, 790, 791, 792, 793, 794, 795, 796, 797, 798, 799, 800] rfl yg_wsX8_findCovers
set_option maxRecDepth 100000 in
theorem gX8_findFewest_X8_findCovers : GoodIn wsX8_findFewest (wsV RX8 286 RX8 yX8_findCovers wsX8_findCovers) := goodIn_app (ygc yCe_wsX8_findFewest _ [259, 260, 261, 262] rfl rfl) ggX8_findFewest_X8_findCovers
noncomputable def yC_wsX8_plan : List (List Cond) := [[.code yX8_plan cX8_plan 7 (some .int)], wsX8_plan_r1, wsX8_plan_r2, wsX8_plan_r3, wsX80]
set_option maxRecDepth 100000 in
theorem yCe_wsX8_plan : wsX8_plan = yC_wsX8_plan.flatten := rfl
set_option maxRecDepth 100000 in
theorem ggX8_plan_X8_in : GoodIn wsX8_plan wsX8_in := ygc yCe_wsX8_plan _ [265] rfl yg_wsX8_in
set_option maxRecDepth 100000 in
theorem gX8_plan_X8_in : GoodIn wsX8_plan (va_wsS RX8 90 yX8_in wsX8_in) := goodIn_app (ygc yCe_wsX8_plan _ [262, 263, 264] rfl rfl) ggX8_plan_X8_in
set_option maxRecDepth 100000 in
theorem yg_wsX8_findFewest : wsX8_findFewest.all goodWord = true := by decide +kernel
set_option maxRecDepth 100000 in
theorem ggX8_plan_X8_findFewest : GoodIn wsX8_plan wsX8_findFewest := ygc yCe_wsX8_plan _ [269, 260, 259, 261, 270, 271, 272, 264, 273, 258, 274, 275, 276, 277, 278, 279, 512, 513, 514, 515, 516, 517, 518, 519, 520, 521, 522, 523, 524, 525, 526, 527, 528, 529, 530, 531, 532, 533, 534, 262, 263, 265, 535, 768, 769, 1024, 1025, 1026, 1027, 1028, 1029, 1030, 1031, 1032, 1033, 1034, 1035, 1036, 1037, 1038, 1039, 1040, 1041, 1042, 1043, 1044, 1045, 1046, 1047, 1048, 1049, 1050, 1051, 1052, 1053, 1054, 1055, 1056] rfl yg_wsX8_findFewest
set_option maxRecDepth 100000 in
theorem gX8_plan_X8_findFewest : GoodIn wsX8_plan (wsV RX8 292 RX8 yX8_findFewest wsX8_findFewest) := goodIn_app (ygc yCe_wsX8_plan _ [266, 267, 268, 264] rfl rfl) ggX8_plan_X8_findFewest
noncomputable def yC_wsX8_who : List (List Cond) := [[.code yX8_who cX8_who 7 (some .int)], wsX8_who_r1, wsX8_who_r2, wsX80]
set_option maxRecDepth 100000 in
theorem yCe_wsX8_who : wsX8_who = yC_wsX8_who.flatten := rfl
set_option maxRecDepth 100000 in
theorem ggX8_who_X8_isHouse : GoodIn wsX8_who wsX8_isHouse := ygc yCe_wsX8_who _ [262, 257, 263, 264, 261, 265, 768, 769, 770, 771, 772, 773, 774, 775, 776, 777, 778, 779, 780, 781, 782, 783, 784, 785, 786, 787, 788, 789, 790, 791, 792, 793, 794, 795, 796, 797, 798, 799, 800] rfl yg_wsX8_isHouse
set_option maxRecDepth 100000 in
theorem gX8_who_X8_isHouse : GoodIn wsX8_who (wsV RX8 205 RX8 yX8_isHouse wsX8_isHouse) := goodIn_app (ygc yCe_wsX8_who _ [258, 259, 260, 261] rfl rfl) ggX8_who_X8_isHouse
set_option maxRecDepth 100000 in
theorem ggX8_who_X8_isDeed : GoodIn wsX8_who wsX8_isDeed := ygc yCe_wsX8_who _ [269, 270, 263, 264, 261, 265, 768, 769, 770, 771, 772, 773, 774, 775, 776, 777, 778, 779, 780, 781, 782, 783, 784, 785, 786, 787, 788, 789, 790, 791, 792, 793, 794, 795, 796, 797, 798, 799, 800] rfl yg_wsX8_isDeed
set_option maxRecDepth 100000 in
theorem gX8_who_X8_isDeed : GoodIn wsX8_who (wsV RX8 209 RX8 yX8_isDeed wsX8_isDeed) := goodIn_app (ygc yCe_wsX8_who _ [266, 267, 268, 261] rfl rfl) ggX8_who_X8_isDeed
set_option maxRecDepth 100000 in
theorem ggX8_who_X8_in : GoodIn wsX8_who wsX8_in := ygc yCe_wsX8_who _ [265] rfl yg_wsX8_in
set_option maxRecDepth 100000 in
theorem gX8_who_X8_in : GoodIn wsX8_who (va_wsS RX8 90 yX8_in wsX8_in) := goodIn_app (ygc yCe_wsX8_who _ [263, 264, 261] rfl rfl) ggX8_who_X8_in
set_option maxRecDepth 100000 in
theorem ggX8_who_X8_doesBring : GoodIn wsX8_who wsX8_doesBring := ygc yCe_wsX8_who _ [274, 275, 276, 277, 278, 261, 279, 512, 513, 514, 515, 257, 516, 517, 518, 519, 520, 521, 522, 523, 524, 525, 526, 527, 528, 529, 530, 263, 264, 265, 531, 532, 533, 768, 769, 770, 771, 772, 773, 774, 775, 776, 777, 778, 779, 780, 781, 782, 783, 784, 785, 786, 787, 788, 789, 790, 791, 792, 793, 794, 795, 796, 797, 798, 799, 800] rfl yg_wsX8_doesBring
set_option maxRecDepth 100000 in
theorem gX8_who_X8_doesBring : GoodIn wsX8_who (wsV RX8 282 RX8 yX8_doesBring wsX8_doesBring) := goodIn_app (ygc yCe_wsX8_who _ [271, 272, 273, 261] rfl rfl) ggX8_who_X8_doesBring
set_option maxRecDepth 100000 in
theorem ggX8_who_X8_flag : GoodIn wsX8_who wsX8_flag := ygc yCe_wsX8_who _ [533] rfl yg_wsX8_flag
set_option maxRecDepth 100000 in
theorem gX8_who_X8_flag : GoodIn wsX8_who (va_wsS RX8 197 yX8_flag wsX8_flag) := goodIn_app (ygc yCe_wsX8_who _ [531, 532, 261] rfl rfl) ggX8_who_X8_flag
noncomputable def yC_wsX8_ways : List (List Cond) := [[.code yX8_ways cX8_ways 9 (some .int)], wsX8_ways_r1, wsX8_ways_r2, wsX80]
set_option maxRecDepth 100000 in
theorem yCe_wsX8_ways : wsX8_ways = yC_wsX8_ways.flatten := rfl
set_option maxRecDepth 100000 in
theorem ggX8_ways_X8_isHouse : GoodIn wsX8_ways wsX8_isHouse := ygc yCe_wsX8_ways _ [261, 256, 262, 263, 260, 264, 768, 769, 770, 771, 772, 773, 774, 775, 776, 777, 778, 779, 780, 781, 782, 783, 784, 785, 786, 787, 788, 789, 790, 791, 792, 793, 794, 795, 796, 797, 798, 799, 800] rfl yg_wsX8_isHouse
set_option maxRecDepth 100000 in
theorem gX8_ways_X8_isHouse : GoodIn wsX8_ways (wsV RX8 205 RX8 yX8_isHouse wsX8_isHouse) := goodIn_app (ygc yCe_wsX8_ways _ [257, 258, 259, 260] rfl rfl) ggX8_ways_X8_isHouse
set_option maxRecDepth 100000 in
theorem ggX8_ways_X8_isDeed : GoodIn wsX8_ways wsX8_isDeed := ygc yCe_wsX8_ways _ [268, 269, 262, 263, 260, 264, 768, 769, 770, 771, 772, 773, 774, 775, 776, 777, 778, 779, 780, 781, 782, 783, 784, 785, 786, 787, 788, 789, 790, 791, 792, 793, 794, 795, 796, 797, 798, 799, 800] rfl yg_wsX8_isDeed
set_option maxRecDepth 100000 in
theorem gX8_ways_X8_isDeed : GoodIn wsX8_ways (wsV RX8 209 RX8 yX8_isDeed wsX8_isDeed) := goodIn_app (ygc yCe_wsX8_ways _ [265, 266, 267, 260] rfl rfl) ggX8_ways_X8_isDeed
set_option maxRecDepth 100000 in
theorem ggX8_ways_X8_in : GoodIn wsX8_ways wsX8_in := ygc yCe_wsX8_ways _ [264] rfl yg_wsX8_in
set_option maxRecDepth 100000 in
theorem gX8_ways_X8_in : GoodIn wsX8_ways (va_wsS RX8 90 yX8_in wsX8_in) := goodIn_app (ygc yCe_wsX8_ways _ [262, 263, 260] rfl rfl) ggX8_ways_X8_in
set_option maxRecDepth 100000 in
theorem ggX8_ways_X8_doesBring : GoodIn wsX8_ways wsX8_doesBring := ygc yCe_wsX8_ways _ [273, 274, 275, 276, 277, 260, 278, 279, 512, 513, 514, 256, 515, 516, 517, 518, 519, 520, 521, 522, 523, 524, 525, 526, 527, 528, 529, 262, 263, 264, 530, 531, 532, 768, 769, 770, 771, 772, 773, 774, 775, 776, 777, 778, 779, 780, 781, 782, 783, 784, 785, 786, 787, 788, 789, 790, 791, 792, 793, 794, 795, 796, 797, 798, 799, 800] rfl yg_wsX8_doesBring
set_option maxRecDepth 100000 in
theorem gX8_ways_X8_doesBring : GoodIn wsX8_ways (wsV RX8 282 RX8 yX8_doesBring wsX8_doesBring) := goodIn_app (ygc yCe_wsX8_ways _ [270, 271, 272, 260] rfl rfl) ggX8_ways_X8_doesBring
noncomputable def yC_wsX8_isEndless : List (List Cond) := [[.code yX8_isEndless cX8_isEndless 5 (some .boolean)], [.fieldLink RX8 7 "VowTerraceModel" "st" "[I", .methodLink RX8 275 yX8_fallen, .instanceMethod yX8_fallen, .selects RX8 yX8_fallen yX8_fallen, .initialized RX8, .code yX8_fallen cX8_fallen 8 (some .int), .fieldLink RX8 79 "VowTerraceModel" "houses" "I", .methodLink RX8 249 yX8_fallsOf, .static yX8_fallsOf, .code yX8_fallsOf cX8_fallsOf 1 (some .int), .methodLink RX8 252 yX8_byOf, .static yX8_byOf, .code yX8_byOf cX8_byOf 2 (some .int), .methodLink RX8 255 yX8_off, .instanceMethod yX8_off, .selects RX8 yX8_off yX8_off, .code yX8_off cX8_off 4 (some .int), .fieldLink RX8 82 "VowTerraceModel" "isRing" "Z", .methodLink RX8 90 yX8_in, .static yX8_in, .code yX8_in cX8_in 6 (some .boolean), .methodLink RX8 197 yX8_flag, .static yX8_flag, .code yX8_flag cX8_flag 1 (some .int)], wsX80]
set_option maxRecDepth 100000 in
theorem yCe_wsX8_isEndless : wsX8_isEndless = yC_wsX8_isEndless.flatten := rfl
set_option maxRecDepth 100000 in
theorem ggX8_isEndless_X8_fallen : GoodIn wsX8_isEndless wsX8_fallen := ygc yCe_wsX8_isEndless _ [261, 262, 263, 264, 260, 265, 266, 267, 268, 269, 270, 271, 272, 273, 274, 275, 276, 277, 278, 279, 512, 513, 514, 515, 516, 517, 518, 519, 520, 521, 522, 523, 524, 525, 526, 527, 528, 529, 530, 531, 532, 533, 534, 535, 536, 537, 538, 539, 540, 541, 542, 543, 544] rfl yg_wsX8_fallen
set_option maxRecDepth 100000 in
theorem gX8_isEndless_X8_fallen : GoodIn wsX8_isEndless (wsV RX8 275 RX8 yX8_fallen wsX8_fallen) := goodIn_app (ygc yCe_wsX8_isEndless _ [257, 258, 259, 260] rfl rfl) ggX8_isEndless_X8_fallen
set_option maxRecDepth 100000 in
theorem yg_wsX8_isEndless : wsX8_isEndless.all goodWord = true := by decide +kernel
noncomputable def yC_wsX8_endless : List (List Cond) := [[.code yX8_endless cX8_endless 4 (some .int)], wsX8_endless_r1, wsX8_endless_r2, wsX80]
set_option maxRecDepth 100000 in
theorem yCe_wsX8_endless : wsX8_endless = yC_wsX8_endless.flatten := rfl
set_option maxRecDepth 100000 in
theorem ggX8_endless_X8_isEndless : GoodIn wsX8_endless wsX8_isEndless := ygc yCe_wsX8_endless _ [261, 256, 262, 263, 264, 260, 265, 266, 267, 268, 269, 270, 271, 272, 273, 274, 275, 276, 277, 278, 279, 512, 513, 514, 515, 768, 769, 770, 771, 772, 773, 774, 775, 776, 777, 778, 779, 780, 781, 782, 783, 784, 785, 786, 787, 788, 789, 790, 791, 792, 793, 794, 795, 796, 797, 798, 799, 800] rfl yg_wsX8_isEndless
set_option maxRecDepth 100000 in
theorem gX8_endless_X8_isEndless : GoodIn wsX8_endless (wsV RX8 295 RX8 yX8_isEndless wsX8_isEndless) := goodIn_app (ygc yCe_wsX8_endless _ [257, 258, 259, 260] rfl rfl) ggX8_endless_X8_isEndless
set_option maxRecDepth 100000 in
theorem ggX8_endless_X8_flag : GoodIn wsX8_endless wsX8_flag := ygc yCe_wsX8_endless _ [515] rfl yg_wsX8_flag
set_option maxRecDepth 100000 in
theorem gX8_endless_X8_flag : GoodIn wsX8_endless (va_wsS RX8 197 yX8_flag wsX8_flag) := goodIn_app (ygc yCe_wsX8_endless _ [513, 514, 260] rfl rfl) ggX8_endless_X8_flag
noncomputable def yC_wsX8_ever : List (List Cond) := [[.code yX8_ever cX8_ever 1 (some .int)], wsX8_ever_r1, wsX8_ever_r2, wsX80]
set_option maxRecDepth 100000 in
theorem yCe_wsX8_ever : wsX8_ever = yC_wsX8_ever.flatten := rfl
set_option maxRecDepth 100000 in
theorem ggX8_ever_X8_lawyersNow : GoodIn wsX8_ever wsX8_lawyersNow := ygc yCe_wsX8_ever _ [260, 261, 262, 768, 769, 770, 771, 772, 773, 774, 775, 776, 777, 778, 779, 780, 781, 782, 783, 784, 785, 786, 787, 788, 789, 790, 791, 792, 793, 794, 795, 796, 797, 798, 799, 800] rfl yg_wsX8_lawyersNow
set_option maxRecDepth 100000 in
theorem gX8_ever_X8_lawyersNow : GoodIn wsX8_ever (wsV RX8 272 RX8 yX8_lawyersNow wsX8_lawyersNow) := goodIn_app (ygc yCe_wsX8_ever _ [256, 257, 258, 259] rfl rfl) ggX8_ever_X8_lawyersNow
set_option maxRecDepth 100000 in
theorem yg_wsX8_endless : wsX8_endless.all goodWord = true := by decide +kernel
set_option maxRecDepth 100000 in
theorem ggX8_ever_X8_endless : GoodIn wsX8_ever wsX8_endless := ygc yCe_wsX8_ever _ [266, 262, 267, 268, 269, 259, 270, 271, 272, 273, 274, 261, 275, 276, 277, 278, 279, 512, 513, 514, 515, 516, 517, 518, 519, 520, 521, 522, 523, 768, 769, 770, 771, 772, 773, 774, 775, 776, 777, 778, 779, 780, 781, 782, 783, 784, 785, 786, 787, 788, 789, 790, 791, 792, 793, 794, 795, 796, 797, 798, 799, 800] rfl yg_wsX8_endless
set_option maxRecDepth 100000 in
theorem gX8_ever_X8_endless : GoodIn wsX8_ever (wsV RX8 299 RX8 yX8_endless wsX8_endless) := goodIn_app (ygc yCe_wsX8_ever _ [263, 264, 265, 259] rfl rfl) ggX8_ever_X8_endless
noncomputable def yC_wsX8_stop : List (List Cond) := [[.code yX8_stop cX8_stop 7 (some .int)], wsX8_stop_r1, wsX8_stop_r2, wsX80]
set_option maxRecDepth 100000 in
theorem yCe_wsX8_stop : wsX8_stop = yC_wsX8_stop.flatten := rfl
set_option maxRecDepth 100000 in
theorem ggX8_stop_X8_in : GoodIn wsX8_stop wsX8_in := ygc yCe_wsX8_stop _ [261] rfl yg_wsX8_in
set_option maxRecDepth 100000 in
theorem gX8_stop_X8_in : GoodIn wsX8_stop (va_wsS RX8 90 yX8_in wsX8_in) := goodIn_app (ygc yCe_wsX8_stop _ [258, 259, 260] rfl rfl) ggX8_stop_X8_in
set_option maxRecDepth 100000 in
theorem ggX8_stop_X8_lawyersNow : GoodIn wsX8_stop wsX8_lawyersNow := ygc yCe_wsX8_stop _ [265, 257, 266, 768, 769, 770, 771, 772, 773, 774, 775, 776, 777, 778, 779, 780, 781, 782, 783, 784, 785, 786, 787, 788, 789, 790, 791, 792, 793, 794, 795, 796, 797, 798, 799, 800] rfl yg_wsX8_lawyersNow
set_option maxRecDepth 100000 in
theorem gX8_stop_X8_lawyersNow : GoodIn wsX8_stop (wsV RX8 272 RX8 yX8_lawyersNow wsX8_lawyersNow) := goodIn_app (ygc yCe_wsX8_stop _ [262, 263, 264, 260] rfl rfl) ggX8_stop_X8_lawyersNow
set_option maxRecDepth 100000 in
theorem ggX8_stop_X8_bitsOf : GoodIn wsX8_stop wsX8_bitsOf := ygc yCe_wsX8_stop _ [269] rfl yg_wsX8_bitsOf
set_option maxRecDepth 100000 in
theorem gX8_stop_X8_bitsOf : GoodIn wsX8_stop (va_wsS RX8 233 yX8_bitsOf wsX8_bitsOf) := goodIn_app (ygc yCe_wsX8_stop _ [267, 268, 260] rfl rfl) ggX8_stop_X8_bitsOf
set_option maxRecDepth 100000 in
theorem ggX8_stop_X8_endless : GoodIn wsX8_stop wsX8_endless := ygc yCe_wsX8_stop _ [273, 266, 274, 275, 276, 260, 277, 278, 279, 512, 513, 257, 514, 515, 516, 517, 518, 519, 520, 521, 522, 523, 524, 258, 259, 261, 525, 526, 527, 768, 769, 770, 771, 772, 773, 774, 775, 776, 777, 778, 779, 780, 781, 782, 783, 784, 785, 786, 787, 788, 789, 790, 791, 792, 793, 794, 795, 796, 797, 798, 799, 800] rfl yg_wsX8_endless
set_option maxRecDepth 100000 in
theorem gX8_stop_X8_endless : GoodIn wsX8_stop (wsV RX8 299 RX8 yX8_endless wsX8_endless) := goodIn_app (ygc yCe_wsX8_stop _ [270, 271, 272, 260] rfl rfl) ggX8_stop_X8_endless
noncomputable def yC_wsX8_best : List (List Cond) := [[.code yX8_best cX8_best 7 (some .int)], wsX8_best_r1, wsX8_best_r2, wsX8_best_r3, wsX80]
set_option maxRecDepth 100000 in
theorem yCe_wsX8_best : wsX8_best = yC_wsX8_best.flatten := rfl
set_option maxRecDepth 100000 in
theorem ggX8_best_X8_in : GoodIn wsX8_best wsX8_in := ygc yCe_wsX8_best _ [262] rfl yg_wsX8_in
set_option maxRecDepth 100000 in
theorem gX8_best_X8_in : GoodIn wsX8_best (va_wsS RX8 90 yX8_in wsX8_in) := goodIn_app (ygc yCe_wsX8_best _ [259, 260, 261] rfl rfl) ggX8_best_X8_in
set_option maxRecDepth 100000 in
theorem ggX8_best_X8_starts : GoodIn wsX8_best wsX8_starts := ygc yCe_wsX8_best _ [266, 267, 268, 1024, 1025, 1026, 1027, 1028, 1029, 1030, 1031, 1032, 1033, 1034, 1035, 1036, 1037, 1038, 1039, 1040, 1041, 1042, 1043, 1044, 1045, 1046, 1047, 1048, 1049, 1050, 1051, 1052, 1053, 1054, 1055, 1056] rfl yg_wsX8_starts
set_option maxRecDepth 100000 in
theorem gX8_best_X8_starts : GoodIn wsX8_best (wsV RX8 266 RX8 yX8_starts wsX8_starts) := goodIn_app (ygc yCe_wsX8_best _ [263, 264, 265, 261] rfl rfl) ggX8_best_X8_starts
set_option maxRecDepth 100000 in
theorem ggX8_best_X8_daysAll : GoodIn wsX8_best wsX8_daysAll := ygc yCe_wsX8_best _ [272, 257, 273, 274, 275, 261, 276, 277, 267, 278, 279, 512, 513, 514, 515, 516, 517, 518, 519, 520, 521, 258, 259, 260, 262, 522, 523, 524, 525, 526, 527, 528, 529, 530, 531, 532, 533, 534, 535, 768, 769, 1024, 1025, 1026, 1027, 1028, 1029, 1030, 1031, 1032, 1033, 1034, 1035, 1036, 1037, 1038, 1039, 1040, 1041, 1042, 1043, 1044, 1045, 1046, 1047, 1048, 1049, 1050, 1051, 1052, 1053, 1054, 1055, 1056] rfl yg_wsX8_daysAll
set_option maxRecDepth 100000 in
theorem gX8_best_X8_daysAll : GoodIn wsX8_best (wsV RX8 269 RX8 yX8_daysAll wsX8_daysAll) := goodIn_app (ygc yCe_wsX8_best _ [269, 270, 271, 261] rfl rfl) ggX8_best_X8_daysAll
set_option maxRecDepth 100000 in
theorem ggX8_best_X8_moves : GoodIn wsX8_best wsX8_moves := ygc yCe_wsX8_best _ [773, 774, 775, 776, 261, 777, 268, 1024, 1025, 1026, 1027, 1028, 1029, 1030, 1031, 1032, 1033, 1034, 1035, 1036, 1037, 1038, 1039, 1040, 1041, 1042, 1043, 1044, 1045, 1046, 1047, 1048, 1049, 1050, 1051, 1052, 1053, 1054, 1055, 1056] rfl yg_wsX8_moves
set_option maxRecDepth 100000 in
theorem gX8_best_X8_moves : GoodIn wsX8_best (wsV RX8 229 RX8 yX8_moves wsX8_moves) := goodIn_app (ygc yCe_wsX8_best _ [770, 771, 772, 261] rfl rfl) ggX8_best_X8_moves
set_option maxRecDepth 100000 in
theorem yg_wsX8_common : wsX8_common.all goodWord = true := by decide +kernel
set_option maxRecDepth 100000 in
theorem ggX8_told_X8_common : GoodIn wsX8_told wsX8_common := goodIn_r _ [4] rfl yg_wsX8_common
set_option maxRecDepth 100000 in
theorem gX8_told_X8_common : GoodIn wsX8_told (va_wsS RX8 304 yX8_common wsX8_common) := goodIn_app (goodIn_r _ [1, 2, 3] rfl rfl) ggX8_told_X8_common
noncomputable def yC_wsX8_timesOf : List (List Cond) := [[.code yX8_timesOf cX8_timesOf 5 (some .int)], [.fieldLink RX8 7 "VowTerraceModel" "st" "[I", .methodLink RX8 249 yX8_fallsOf, .static yX8_fallsOf, .initialized RX8, .code yX8_fallsOf cX8_fallsOf 1 (some .int), .methodLink RX8 252 yX8_byOf, .static yX8_byOf, .code yX8_byOf cX8_byOf 2 (some .int), .methodLink RX8 255 yX8_off, .instanceMethod yX8_off, .selects RX8 yX8_off yX8_off, .code yX8_off cX8_off 4 (some .int), .fieldLink RX8 82 "VowTerraceModel" "isRing" "Z", .fieldLink RX8 79 "VowTerraceModel" "houses" "I", .methodLink RX8 90 yX8_in, .static yX8_in, .code yX8_in cX8_in 6 (some .boolean), .methodLink RX8 197 yX8_flag, .static yX8_flag, .code yX8_flag cX8_flag 1 (some .int)], wsX80]
set_option maxRecDepth 100000 in
theorem yCe_wsX8_timesOf : wsX8_timesOf = yC_wsX8_timesOf.flatten := rfl
set_option maxRecDepth 100000 in
theorem ggX8_timesOf_X8_fallsOf : GoodIn wsX8_timesOf wsX8_fallsOf := ygc yCe_wsX8_timesOf _ [260] rfl yg_wsX8_fallsOf
set_option maxRecDepth 100000 in
theorem gX8_timesOf_X8_fallsOf : GoodIn wsX8_timesOf (va_wsS RX8 249 yX8_fallsOf wsX8_fallsOf) := goodIn_app (ygc yCe_wsX8_timesOf _ [257, 258, 259] rfl rfl) ggX8_timesOf_X8_fallsOf
set_option maxRecDepth 100000 in
theorem ggX8_timesOf_X8_byOf : GoodIn wsX8_timesOf wsX8_byOf := ygc yCe_wsX8_timesOf _ [263] rfl yg_wsX8_byOf
set_option maxRecDepth 100000 in
theorem gX8_timesOf_X8_byOf : GoodIn wsX8_timesOf (va_wsS RX8 252 yX8_byOf wsX8_byOf) := goodIn_app (ygc yCe_wsX8_timesOf _ [261, 262, 259] rfl rfl) ggX8_timesOf_X8_byOf
set_option maxRecDepth 100000 in
theorem ggX8_timesOf_X8_off : GoodIn wsX8_timesOf wsX8_off := ygc yCe_wsX8_timesOf _ [267, 268, 269, 270, 271, 259, 272, 512, 513, 514, 515, 516, 517, 518, 519, 520, 521, 522, 523, 524, 525, 526, 527, 528, 529, 530, 531, 532, 533, 534, 535, 536, 537, 538, 539, 540, 541, 542, 543, 544] rfl yg_wsX8_off
set_option maxRecDepth 100000 in
theorem gX8_timesOf_X8_off : GoodIn wsX8_timesOf (wsV RX8 255 RX8 yX8_off wsX8_off) := goodIn_app (ygc yCe_wsX8_timesOf _ [264, 265, 266, 259] rfl rfl) ggX8_timesOf_X8_off
set_option maxRecDepth 100000 in
theorem ggX8_timesOf_X8_flag : GoodIn wsX8_timesOf wsX8_flag := ygc yCe_wsX8_timesOf _ [275] rfl yg_wsX8_flag
set_option maxRecDepth 100000 in
theorem gX8_timesOf_X8_flag : GoodIn wsX8_timesOf (va_wsS RX8 197 yX8_flag wsX8_flag) := goodIn_app (ygc yCe_wsX8_timesOf _ [273, 274, 259] rfl rfl) ggX8_timesOf_X8_flag
noncomputable def yC_wsX8_mean : List (List Cond) := [[.code yX8_mean cX8_mean 7 (some .long)], wsX8_mean_r1, wsX8_mean_r2, wsX80]
set_option maxRecDepth 100000 in
theorem yCe_wsX8_mean : wsX8_mean = yC_wsX8_mean.flatten := rfl
set_option maxRecDepth 100000 in
theorem ggX8_mean_X8_isHouse : GoodIn wsX8_mean wsX8_isHouse := ygc yCe_wsX8_mean _ [265, 257, 266, 267, 264, 268, 768, 769, 770, 771, 772, 773, 774, 775, 776, 777, 778, 779, 780, 781, 782, 783, 784, 785, 786, 787, 788, 789, 790, 791, 792, 793, 794, 795, 796, 797, 798, 799, 800] rfl yg_wsX8_isHouse
set_option maxRecDepth 100000 in
theorem gX8_mean_X8_isHouse : GoodIn wsX8_mean (wsV RX8 205 RX8 yX8_isHouse wsX8_isHouse) := goodIn_app (ygc yCe_wsX8_mean _ [261, 262, 263, 264] rfl rfl) ggX8_mean_X8_isHouse
set_option maxRecDepth 100000 in
theorem ggX8_mean_X8_in : GoodIn wsX8_mean wsX8_in := ygc yCe_wsX8_mean _ [268] rfl yg_wsX8_in
set_option maxRecDepth 100000 in
theorem gX8_mean_X8_in : GoodIn wsX8_mean (va_wsS RX8 90 yX8_in wsX8_in) := goodIn_app (ygc yCe_wsX8_mean _ [266, 267, 264] rfl rfl) ggX8_mean_X8_in
set_option maxRecDepth 100000 in
theorem yg_wsX8_timesOf : wsX8_timesOf.all goodWord = true := by decide +kernel
set_option maxRecDepth 100000 in
theorem ggX8_mean_X8_timesOf : GoodIn wsX8_mean wsX8_timesOf := ygc yCe_wsX8_mean _ [272, 258, 273, 274, 264, 275, 276, 277, 278, 279, 512, 513, 514, 515, 257, 266, 267, 268, 516, 517, 518, 768, 769, 770, 771, 772, 773, 774, 775, 776, 777, 778, 779, 780, 781, 782, 783, 784, 785, 786, 787, 788, 789, 790, 791, 792, 793, 794, 795, 796, 797, 798, 799, 800] rfl yg_wsX8_timesOf
set_option maxRecDepth 100000 in
theorem gX8_mean_X8_timesOf : GoodIn wsX8_mean (wsV RX8 310 RX8 yX8_timesOf wsX8_timesOf) := goodIn_app (ygc yCe_wsX8_mean _ [269, 270, 271, 264] rfl rfl) ggX8_mean_X8_timesOf
set_option maxRecDepth 100000 in
theorem yg_wsX8_told : wsX8_told.all goodWord = true := by decide +kernel
set_option maxRecDepth 100000 in
theorem ggX8_mean_X8_told : GoodIn wsX8_mean wsX8_told := ygc yCe_wsX8_mean _ [521, 522, 523, 264, 524] rfl yg_wsX8_told
set_option maxRecDepth 100000 in
theorem gX8_mean_X8_told : GoodIn wsX8_mean (va_wsS RX8 313 yX8_told wsX8_told) := goodIn_app (ygc yCe_wsX8_mean _ [519, 520, 264] rfl rfl) ggX8_mean_X8_told
noncomputable def yC_wsX8_luck : List (List Cond) := [[.code yX8_luck cX8_luck 15 (some .long)], wsX8_luck_r1, wsX8_luck_r2, wsX80]
set_option maxRecDepth 100000 in
theorem yCe_wsX8_luck : wsX8_luck = yC_wsX8_luck.flatten := rfl
set_option maxRecDepth 100000 in
theorem ggX8_luck_X8_isHouse : GoodIn wsX8_luck wsX8_isHouse := ygc yCe_wsX8_luck _ [265, 257, 266, 267, 264, 268, 768, 769, 770, 771, 772, 773, 774, 775, 776, 777, 778, 779, 780, 781, 782, 783, 784, 785, 786, 787, 788, 789, 790, 791, 792, 793, 794, 795, 796, 797, 798, 799, 800] rfl yg_wsX8_isHouse
set_option maxRecDepth 100000 in
theorem gX8_luck_X8_isHouse : GoodIn wsX8_luck (wsV RX8 205 RX8 yX8_isHouse wsX8_isHouse) := goodIn_app (ygc yCe_wsX8_luck _ [261, 262, 263, 264] rfl rfl) ggX8_luck_X8_isHouse
set_option maxRecDepth 100000 in
theorem ggX8_luck_X8_in : GoodIn wsX8_luck wsX8_in := ygc yCe_wsX8_luck _ [268] rfl yg_wsX8_in
set_option maxRecDepth 100000 in
theorem gX8_luck_X8_in : GoodIn wsX8_luck (va_wsS RX8 90 yX8_in wsX8_in) := goodIn_app (ygc yCe_wsX8_luck _ [266, 267, 264] rfl rfl) ggX8_luck_X8_in
set_option maxRecDepth 100000 in
theorem ggX8_luck_X8_timesOf : GoodIn wsX8_luck wsX8_timesOf := ygc yCe_wsX8_luck _ [272, 259, 273, 274, 264, 275, 276, 277, 278, 279, 512, 513, 514, 515, 257, 266, 267, 268, 516, 517, 518, 768, 769, 770, 771, 772, 773, 774, 775, 776, 777, 778, 779, 780, 781, 782, 783, 784, 785, 786, 787, 788, 789, 790, 791, 792, 793, 794, 795, 796, 797, 798, 799, 800] rfl yg_wsX8_timesOf
set_option maxRecDepth 100000 in
theorem gX8_luck_X8_timesOf : GoodIn wsX8_luck (wsV RX8 310 RX8 yX8_timesOf wsX8_timesOf) := goodIn_app (ygc yCe_wsX8_luck _ [269, 270, 271, 264] rfl rfl) ggX8_luck_X8_timesOf
set_option maxRecDepth 100000 in
theorem ggX8_luck_X8_told : GoodIn wsX8_luck wsX8_told := ygc yCe_wsX8_luck _ [521, 522, 523, 264, 524] rfl yg_wsX8_told
set_option maxRecDepth 100000 in
theorem gX8_luck_X8_told : GoodIn wsX8_luck (va_wsS RX8 313 yX8_told wsX8_told) := goodIn_app (ygc yCe_wsX8_luck _ [519, 520, 264] rfl rfl) ggX8_luck_X8_told
noncomputable def yC_wsX8_drift : List (List Cond) := [[.code yX8_drift cX8_drift 9 (some .int)], wsX8_drift_r1, wsX8_drift_r2, wsX80]
set_option maxRecDepth 100000 in
theorem yCe_wsX8_drift : wsX8_drift = yC_wsX8_drift.flatten := rfl
set_option maxRecDepth 100000 in
theorem ggX8_drift_X8_in : GoodIn wsX8_drift wsX8_in := ygc yCe_wsX8_drift _ [264] rfl yg_wsX8_in
set_option maxRecDepth 100000 in
theorem gX8_drift_X8_in : GoodIn wsX8_drift (va_wsS RX8 90 yX8_in wsX8_in) := goodIn_app (ygc yCe_wsX8_drift _ [261, 262, 263] rfl rfl) ggX8_drift_X8_in
set_option maxRecDepth 100000 in
theorem ggX8_drift_X8_starts : GoodIn wsX8_drift wsX8_starts := ygc yCe_wsX8_drift _ [268, 258, 269, 768, 769, 770, 771, 772, 773, 774, 775, 776, 777, 778, 779, 780, 781, 782, 783, 784, 785, 786, 787, 788, 789, 790, 791, 792, 793, 794, 795, 796, 797, 798, 799, 800] rfl yg_wsX8_starts
set_option maxRecDepth 100000 in
theorem gX8_drift_X8_starts : GoodIn wsX8_drift (wsV RX8 266 RX8 yX8_starts wsX8_starts) := goodIn_app (ygc yCe_wsX8_drift _ [265, 266, 267, 263] rfl rfl) ggX8_drift_X8_starts
set_option maxRecDepth 100000 in
theorem ggX8_drift_X8_days : GoodIn wsX8_drift wsX8_days := ygc yCe_wsX8_drift _ [273, 274, 258, 275, 276, 277, 263, 278, 279, 512, 513, 514, 515, 516, 517, 518, 260, 261, 262, 264, 519, 520, 521, 522, 523, 524, 525, 526, 527, 528, 529, 530, 531, 257, 532, 533, 534, 768, 769, 770, 771, 772, 773, 774, 775, 776, 777, 778, 779, 780, 781, 782, 783, 784, 785, 786, 787, 788, 789, 790, 791, 792, 793, 794, 795, 796, 797, 798, 799, 800] rfl yg_wsX8_days
set_option maxRecDepth 100000 in
theorem gX8_drift_X8_days : GoodIn wsX8_drift (wsV RX8 261 RX8 yX8_days wsX8_days) := goodIn_app (ygc yCe_wsX8_drift _ [270, 271, 272, 263] rfl rfl) ggX8_drift_X8_days
noncomputable def yC_wsX8_keep : List (List Cond) := [[.code yX8_keep cX8_keep 3 (some .int)], [.fieldLink RX8 16 "VowTerraceModel" "isKept" "[Z", .methodLink RX8 90 yX8_in, .static yX8_in, .initialized RX8, .code yX8_in cX8_in 6 (some .boolean), .methodLink RX8 197 yX8_flag, .static yX8_flag, .code yX8_flag cX8_flag 1 (some .int), .methodLink RX8 318 yX8_copies, .instanceMethod yX8_copies, .selects RX8 yX8_copies yX8_copies, .code yX8_copies cX8_copies 4 none, .fieldLink RX8 7 "VowTerraceModel" "st" "[I"], wsX80]
set_option maxRecDepth 100000 in
theorem yCe_wsX8_keep : wsX8_keep = yC_wsX8_keep.flatten := rfl
set_option maxRecDepth 100000 in
theorem ggX8_keep_X8_in : GoodIn wsX8_keep wsX8_in := ygc yCe_wsX8_keep _ [260] rfl yg_wsX8_in
set_option maxRecDepth 100000 in
theorem gX8_keep_X8_in : GoodIn wsX8_keep (va_wsS RX8 90 yX8_in wsX8_in) := goodIn_app (ygc yCe_wsX8_keep _ [257, 258, 259] rfl rfl) ggX8_keep_X8_in
set_option maxRecDepth 100000 in
theorem ggX8_keep_X8_flag : GoodIn wsX8_keep wsX8_flag := ygc yCe_wsX8_keep _ [263] rfl yg_wsX8_flag
set_option maxRecDepth 100000 in
theorem gX8_keep_X8_flag : GoodIn wsX8_keep (va_wsS RX8 197 yX8_flag wsX8_flag) := goodIn_app (ygc yCe_wsX8_keep _ [261, 262, 259] rfl rfl) ggX8_keep_X8_flag
set_option maxRecDepth 100000 in
theorem yg_wsX8_copies : wsX8_copies.all goodWord = true := by decide +kernel
set_option maxRecDepth 100000 in
theorem ggX8_keep_X8_copies : GoodIn wsX8_keep wsX8_copies := ygc yCe_wsX8_keep _ [267, 268, 512, 513, 514, 515, 516, 517, 518, 519, 520, 521, 522, 523, 524, 525, 526, 527, 528, 529, 530, 531, 532, 533, 534, 535, 536, 537, 538, 539, 540, 541, 542, 543, 544] rfl yg_wsX8_copies
set_option maxRecDepth 100000 in
theorem gX8_keep_X8_copies : GoodIn wsX8_keep (wsV RX8 318 RX8 yX8_copies wsX8_copies) := goodIn_app (ygc yCe_wsX8_keep _ [264, 265, 266, 259] rfl rfl) ggX8_keep_X8_copies
noncomputable def yC_wsX8_back : List (List Cond) := [[.code yX8_back cX8_back 2 (some .int)], [.fieldLink RX8 16 "VowTerraceModel" "isKept" "[Z", .fieldLink RX8 7 "VowTerraceModel" "st" "[I", .methodLink RX8 90 yX8_in, .static yX8_in, .initialized RX8, .code yX8_in cX8_in 6 (some .boolean), .methodLink RX8 318 yX8_copies, .instanceMethod yX8_copies, .selects RX8 yX8_copies yX8_copies, .code yX8_copies cX8_copies 4 none], wsX80]
set_option maxRecDepth 100000 in
theorem yCe_wsX8_back : wsX8_back = yC_wsX8_back.flatten := rfl
set_option maxRecDepth 100000 in
theorem ggX8_back_X8_in : GoodIn wsX8_back wsX8_in := ygc yCe_wsX8_back _ [261] rfl yg_wsX8_in
set_option maxRecDepth 100000 in
theorem gX8_back_X8_in : GoodIn wsX8_back (va_wsS RX8 90 yX8_in wsX8_in) := goodIn_app (ygc yCe_wsX8_back _ [258, 259, 260] rfl rfl) ggX8_back_X8_in
set_option maxRecDepth 100000 in
theorem ggX8_back_X8_copies : GoodIn wsX8_back wsX8_copies := ygc yCe_wsX8_back _ [265, 257, 512, 513, 514, 515, 516, 517, 518, 519, 520, 521, 522, 523, 524, 525, 526, 527, 528, 529, 530, 531, 532, 533, 534, 535, 536, 537, 538, 539, 540, 541, 542, 543, 544] rfl yg_wsX8_copies
set_option maxRecDepth 100000 in
theorem gX8_back_X8_copies : GoodIn wsX8_back (wsV RX8 318 RX8 yX8_copies wsX8_copies) := goodIn_app (ygc yCe_wsX8_back _ [262, 263, 264, 260] rfl rfl) ggX8_back_X8_copies
set_option maxRecDepth 100000 in
theorem ggX8_isSheet_X8_in : GoodIn wsX8_isSheet wsX8_in := goodIn_r _ [6] rfl yg_wsX8_in
set_option maxRecDepth 100000 in
theorem gX8_isSheet_X8_in : GoodIn wsX8_isSheet (va_wsS RX8 90 yX8_in wsX8_in) := goodIn_app (goodIn_r _ [3, 4, 5] rfl rfl) ggX8_isSheet_X8_in
set_option maxRecDepth 100000 in
theorem yg_wsX8_isSheet : wsX8_isSheet.all goodWord = true := by decide +kernel
noncomputable def yC_wsX8_sheet : List (List Cond) := [[.code yX8_sheet cX8_sheet 5 (some .int)], [.fieldLink RX8 44 "VowTerraceModel" "lanes" "[I", .fieldLink RX8 47 "VowTerraceModel" "sizes" "[I", .fieldLink RX8 50 "VowTerraceModel" "cells" "[I", .methodLink RX8 323 yX8_isSheet, .static yX8_isSheet, .initialized RX8, .code yX8_isSheet cX8_isSheet 2 (some .boolean), .constantLong RX8 195 (3), .constantLong RX8 321 (2), .methodLink RX8 90 yX8_in, .static yX8_in, .code yX8_in cX8_in 6 (some .boolean)], wsX80]
set_option maxRecDepth 100000 in
theorem yCe_wsX8_sheet : wsX8_sheet = yC_wsX8_sheet.flatten := rfl
set_option maxRecDepth 100000 in
theorem ggX8_sheet_X8_isSheet : GoodIn wsX8_sheet wsX8_isSheet := ygc yCe_wsX8_sheet _ [262, 263, 264, 265, 266, 261, 267] rfl yg_wsX8_isSheet
set_option maxRecDepth 100000 in
theorem gX8_sheet_X8_isSheet : GoodIn wsX8_sheet (va_wsS RX8 323 yX8_isSheet wsX8_isSheet) := goodIn_app (ygc yCe_wsX8_sheet _ [259, 260, 261] rfl rfl) ggX8_sheet_X8_isSheet
noncomputable def yC_wsX8_lay : List (List Cond) := [[.code yX8_lay cX8_lay 4 (some .int)], [.fieldLink RX8 44 "VowTerraceModel" "lanes" "[I", .fieldLink RX8 47 "VowTerraceModel" "sizes" "[I", .fieldLink RX8 50 "VowTerraceModel" "cells" "[I", .methodLink RX8 323 yX8_isSheet, .static yX8_isSheet, .initialized RX8, .code yX8_isSheet cX8_isSheet 2 (some .boolean), .constantLong RX8 195 (3), .constantLong RX8 321 (2), .methodLink RX8 90 yX8_in, .static yX8_in, .code yX8_in cX8_in 6 (some .boolean)], wsX80]
set_option maxRecDepth 100000 in
theorem yCe_wsX8_lay : wsX8_lay = yC_wsX8_lay.flatten := rfl
set_option maxRecDepth 100000 in
theorem ggX8_lay_X8_isSheet : GoodIn wsX8_lay wsX8_isSheet := ygc yCe_wsX8_lay _ [262, 263, 264, 265, 266, 261, 267] rfl yg_wsX8_isSheet
set_option maxRecDepth 100000 in
theorem gX8_lay_X8_isSheet : GoodIn wsX8_lay (va_wsS RX8 323 yX8_isSheet wsX8_isSheet) := goodIn_app (ygc yCe_wsX8_lay _ [259, 260, 261] rfl rfl) ggX8_lay_X8_isSheet
set_option maxRecDepth 100000 in
theorem ggX8_lay_X8_in : GoodIn wsX8_lay wsX8_in := ygc yCe_wsX8_lay _ [267] rfl yg_wsX8_in
set_option maxRecDepth 100000 in
theorem gX8_lay_X8_in : GoodIn wsX8_lay (va_wsS RX8 90 yX8_in wsX8_in) := goodIn_app (ygc yCe_wsX8_lay _ [265, 266, 261] rfl rfl) ggX8_lay_X8_in
noncomputable def yC_wsX8_read : List (List Cond) := [[.code yX8_read cX8_read 12 (some .int)], wsX8_read_r1, wsX8_read_r2, wsX80]
set_option maxRecDepth 100000 in
theorem yCe_wsX8_read : wsX8_read = yC_wsX8_read.flatten := rfl
set_option maxRecDepth 100000 in
theorem ggX8_read_X8_isSheet : GoodIn wsX8_read wsX8_isSheet := ygc yCe_wsX8_read _ [265, 266, 267, 268, 269, 264, 270] rfl yg_wsX8_isSheet
set_option maxRecDepth 100000 in
theorem gX8_read_X8_isSheet : GoodIn wsX8_read (va_wsS RX8 323 yX8_isSheet wsX8_isSheet) := goodIn_app (ygc yCe_wsX8_read _ [262, 263, 264] rfl rfl) ggX8_read_X8_isSheet
set_option maxRecDepth 100000 in
theorem ggX8_read_X8_in : GoodIn wsX8_read wsX8_in := ygc yCe_wsX8_read _ [270] rfl yg_wsX8_in
set_option maxRecDepth 100000 in
theorem gX8_read_X8_in : GoodIn wsX8_read (va_wsS RX8 90 yX8_in wsX8_in) := goodIn_app (ygc yCe_wsX8_read _ [268, 269, 264] rfl rfl) ggX8_read_X8_in
set_option maxRecDepth 100000 in
theorem yg_wsX8_vows : wsX8_vows.all goodWord = true := by decide +kernel
set_option maxRecDepth 100000 in
theorem ggX8_read_X8_vows : GoodIn wsX8_read wsX8_vows := ygc yCe_wsX8_read _ [274, 257, 275, 276, 277, 264, 278, 279, 268, 269, 270, 512, 513, 514, 515, 516, 517, 518, 266, 519, 520, 521, 522, 523, 768, 769, 770, 771, 772, 773, 774, 775, 776, 777, 778, 779, 780, 781, 782, 783, 784, 785, 786, 787, 788, 789, 790, 791, 792, 793, 794, 795, 796, 797, 798, 799, 800] rfl yg_wsX8_vows
set_option maxRecDepth 100000 in
theorem gX8_read_X8_vows : GoodIn wsX8_read (wsV RX8 326 RX8 yX8_vows wsX8_vows) := goodIn_app (ygc yCe_wsX8_read _ [271, 272, 273, 264] rfl rfl) ggX8_read_X8_vows
noncomputable def yC_wsX8_count : List (List Cond) := [[.code yX8_count cX8_count 6 (some .int)], [.fieldLink RX8 7 "VowTerraceModel" "st" "[I", .fieldLink RX8 79 "VowTerraceModel" "houses" "I", .fieldLink RX8 16 "VowTerraceModel" "isKept" "[Z", .fieldLink RX8 94 "VowTerraceModel" "taped" "I", .fieldLink RX8 44 "VowTerraceModel" "lanes" "[I", .fieldLink RX8 47 "VowTerraceModel" "sizes" "[I", .methodLink RX8 197 yX8_flag, .static yX8_flag, .initialized RX8, .code yX8_flag cX8_flag 1 (some .int), .methodLink RX8 272 yX8_lawyersNow, .instanceMethod yX8_lawyersNow, .selects RX8 yX8_lawyersNow yX8_lawyersNow, .code yX8_lawyersNow cX8_lawyersNow 3 (some .int), .methodLink RX8 233 yX8_bitsOf, .static yX8_bitsOf, .code yX8_bitsOf cX8_bitsOf 3 (some .int)], wsX80]
set_option maxRecDepth 100000 in
theorem yCe_wsX8_count : wsX8_count = yC_wsX8_count.flatten := rfl
set_option maxRecDepth 100000 in
theorem ggX8_count_X8_flag : GoodIn wsX8_count wsX8_flag := ygc yCe_wsX8_count _ [265] rfl yg_wsX8_flag
set_option maxRecDepth 100000 in
theorem gX8_count_X8_flag : GoodIn wsX8_count (va_wsS RX8 197 yX8_flag wsX8_flag) := goodIn_app (ygc yCe_wsX8_count _ [262, 263, 264] rfl rfl) ggX8_count_X8_flag
set_option maxRecDepth 100000 in
theorem ggX8_count_X8_lawyersNow : GoodIn wsX8_count wsX8_lawyersNow := ygc yCe_wsX8_count _ [269, 257, 256, 512, 513, 514, 515, 516, 517, 518, 519, 520, 521, 522, 523, 524, 525, 526, 527, 528, 529, 530, 531, 532, 533, 534, 535, 536, 537, 538, 539, 540, 541, 542, 543, 544] rfl yg_wsX8_lawyersNow
set_option maxRecDepth 100000 in
theorem gX8_count_X8_lawyersNow : GoodIn wsX8_count (wsV RX8 272 RX8 yX8_lawyersNow wsX8_lawyersNow) := goodIn_app (ygc yCe_wsX8_count _ [266, 267, 268, 264] rfl rfl) ggX8_count_X8_lawyersNow
set_option maxRecDepth 100000 in
theorem ggX8_count_X8_bitsOf : GoodIn wsX8_count wsX8_bitsOf := ygc yCe_wsX8_count _ [272] rfl yg_wsX8_bitsOf
set_option maxRecDepth 100000 in
theorem gX8_count_X8_bitsOf : GoodIn wsX8_count (va_wsS RX8 233 yX8_bitsOf wsX8_bitsOf) := goodIn_app (ygc yCe_wsX8_count _ [270, 271, 264] rfl rfl) ggX8_count_X8_bitsOf
set_option maxRecDepth 100000 in
theorem yg_wsJ0_coder_7d493 : wsJ0_coder_7d493.all goodWord = true := by decide +kernel
set_option maxRecDepth 100000 in
theorem ggJ0_length_8abf5_J0_coder_7d493 : GoodIn wsJ0_length_8abf5 wsJ0_coder_7d493 := goodIn_r _ [6, 7, 8] rfl yg_wsJ0_coder_7d493
set_option maxRecDepth 100000 in
theorem gJ0_length_8abf5_J0_coder_7d493 : GoodIn wsJ0_length_8abf5 (wsV RJ0 335 RJ0 yJ0_coder_7d493 wsJ0_coder_7d493) := goodIn_app (goodIn_r _ [2, 3, 4, 5] rfl rfl) ggJ0_length_8abf5_J0_coder_7d493
set_option maxRecDepth 100000 in
theorem yg_wsJ0_isLatin1_aae02 : wsJ0_isLatin1_aae02.all goodWord = true := by decide +kernel
set_option maxRecDepth 100000 in
theorem ggJ0_charAt_5068e_J0_isLatin1_aae02 : GoodIn wsJ0_charAt_5068e wsJ0_isLatin1_aae02 := goodIn_r _ [6, 7, 8] rfl yg_wsJ0_isLatin1_aae02
set_option maxRecDepth 100000 in
theorem gJ0_charAt_5068e_J0_isLatin1_aae02 : GoodIn wsJ0_charAt_5068e (wsV RJ0 492 RJ0 yJ0_isLatin1_aae02 wsJ0_isLatin1_aae02) := goodIn_app (goodIn_r _ [2, 3, 4, 5] rfl rfl) ggJ0_charAt_5068e_J0_isLatin1_aae02
set_option maxRecDepth 100000 in
theorem yg_wsJ1_charAt_3b067 : wsJ1_charAt_3b067.all goodWord = true := by decide +kernel
set_option maxRecDepth 100000 in
theorem ggJ0_charAt_5068e_J1_charAt_3b067 : GoodIn wsJ0_charAt_5068e wsJ1_charAt_3b067 := goodIn_r _ [12, 13, 14, 5, 15, 16, 17, 18, 19, 20] rfl yg_wsJ1_charAt_3b067
set_option maxRecDepth 100000 in
theorem gJ0_charAt_5068e_J1_charAt_3b067 : GoodIn wsJ0_charAt_5068e (va_wsS RJ0 495 yJ1_charAt_3b067 wsJ1_charAt_3b067) := goodIn_app (goodIn_r _ [9, 10, 11] rfl rfl) ggJ0_charAt_5068e_J1_charAt_3b067
set_option maxRecDepth 100000 in
theorem yg_wsJ2_charAt_3b067 : wsJ2_charAt_3b067.all goodWord = true := by decide +kernel
set_option maxRecDepth 100000 in
theorem ggJ0_charAt_5068e_J2_charAt_3b067 : GoodIn wsJ0_charAt_5068e wsJ2_charAt_3b067 := goodIn_r _ [24, 25, 26, 23, 27, 28, 29, 30, 31, 14, 5, 15, 16, 17, 18, 19, 20, 32, 33, 34, 35, 36, 37] rfl yg_wsJ2_charAt_3b067
set_option maxRecDepth 100000 in
theorem gJ0_charAt_5068e_J2_charAt_3b067 : GoodIn wsJ0_charAt_5068e (va_wsS RJ0 498 yJ2_charAt_3b067 wsJ2_charAt_3b067) := goodIn_app (goodIn_r _ [21, 22, 23] rfl rfl) ggJ0_charAt_5068e_J2_charAt_3b067
set_option maxRecDepth 100000 in
theorem yg_wsJ3_checkIndex_8e157 : wsJ3_checkIndex_8e157.all goodWord = true := by decide +kernel
set_option maxRecDepth 100000 in
theorem ggJ0_checkIndex_df160_J3_checkIndex_8e157 : GoodIn wsJ0_checkIndex_df160 wsJ3_checkIndex_8e157 := goodIn_r _ [5] rfl yg_wsJ3_checkIndex_8e157
set_option maxRecDepth 100000 in
theorem gJ0_checkIndex_df160_J3_checkIndex_8e157 : GoodIn wsJ0_checkIndex_df160 (va_wsS RJ0 1059 yJ3_checkIndex_8e157 wsJ3_checkIndex_8e157) := goodIn_app (goodIn_r _ [2, 3, 4] rfl rfl) ggJ0_checkIndex_df160_J3_checkIndex_8e157
set_option maxRecDepth 100000 in
theorem yg_wsJ0_checkIndex_df160 : wsJ0_checkIndex_df160.all goodWord = true := by decide +kernel
set_option maxRecDepth 100000 in
theorem ggJ1_charAt_3b067_J0_checkIndex_df160 : GoodIn wsJ1_charAt_3b067 wsJ0_checkIndex_df160 := goodIn_r _ [4, 5, 6, 7, 8, 9] rfl yg_wsJ0_checkIndex_df160
set_option maxRecDepth 100000 in
theorem gJ1_charAt_3b067_J0_checkIndex_df160 : GoodIn wsJ1_charAt_3b067 (va_wsS RJ1 9 yJ0_checkIndex_df160 wsJ0_checkIndex_df160) := goodIn_app (goodIn_r _ [1, 2, 3] rfl rfl) ggJ1_charAt_3b067_J0_checkIndex_df160
set_option maxRecDepth 100000 in
theorem yg_wsJ2_length_9d52b : wsJ2_length_9d52b.all goodWord = true := by decide +kernel
set_option maxRecDepth 100000 in
theorem ggJ2_getChar_3b067_J2_length_9d52b : GoodIn wsJ2_getChar_3b067 wsJ2_length_9d52b := goodIn_r _ [7] rfl yg_wsJ2_length_9d52b
set_option maxRecDepth 100000 in
theorem gJ2_getChar_3b067_J2_length_9d52b : GoodIn wsJ2_getChar_3b067 (va_wsS RJ2 48 yJ2_length_9d52b wsJ2_length_9d52b) := goodIn_app (goodIn_r _ [4, 5, 6] rfl rfl) ggJ2_getChar_3b067_J2_length_9d52b
set_option maxRecDepth 100000 in
theorem yg_wsJ2_checkIndex_2214a : wsJ2_checkIndex_2214a.all goodWord = true := by decide +kernel
set_option maxRecDepth 100000 in
theorem ggJ2_charAt_3b067_J2_checkIndex_2214a : GoodIn wsJ2_charAt_3b067 wsJ2_checkIndex_2214a := goodIn_r _ [4, 5, 6, 3, 7, 8, 9, 10, 11, 12, 13, 14, 15, 16] rfl yg_wsJ2_checkIndex_2214a
set_option maxRecDepth 100000 in
theorem gJ2_charAt_3b067_J2_checkIndex_2214a : GoodIn wsJ2_charAt_3b067 (va_wsS RJ2 67 yJ2_checkIndex_2214a wsJ2_checkIndex_2214a) := goodIn_app (goodIn_r _ [1, 2, 3] rfl rfl) ggJ2_charAt_3b067_J2_checkIndex_2214a
set_option maxRecDepth 100000 in
theorem yg_wsJ2_getChar_3b067 : wsJ2_getChar_3b067.all goodWord = true := by decide +kernel
set_option maxRecDepth 100000 in
theorem ggJ2_charAt_3b067_J2_getChar_3b067 : GoodIn wsJ2_charAt_3b067 wsJ2_getChar_3b067 := goodIn_r _ [19, 20, 21, 22, 5, 6, 3, 7] rfl yg_wsJ2_getChar_3b067
set_option maxRecDepth 100000 in
theorem gJ2_charAt_3b067_J2_getChar_3b067 : GoodIn wsJ2_charAt_3b067 (va_wsS RJ2 71 yJ2_getChar_3b067 wsJ2_getChar_3b067) := goodIn_app (goodIn_r _ [17, 18, 3] rfl rfl) ggJ2_charAt_3b067_J2_getChar_3b067
set_option maxRecDepth 100000 in
theorem ggJ2_checkIndex_2214a_J2_length_9d52b : GoodIn wsJ2_checkIndex_2214a wsJ2_length_9d52b := goodIn_r _ [4] rfl yg_wsJ2_length_9d52b
set_option maxRecDepth 100000 in
theorem gJ2_checkIndex_2214a_J2_length_9d52b : GoodIn wsJ2_checkIndex_2214a (va_wsS RJ2 48 yJ2_length_9d52b wsJ2_length_9d52b) := goodIn_app (goodIn_r _ [1, 2, 3] rfl rfl) ggJ2_checkIndex_2214a_J2_length_9d52b
set_option maxRecDepth 100000 in
theorem ggJ2_checkIndex_2214a_J0_checkIndex_df160 : GoodIn wsJ2_checkIndex_2214a wsJ0_checkIndex_df160 := goodIn_r _ [8, 9, 10, 11, 12, 13] rfl yg_wsJ0_checkIndex_df160
set_option maxRecDepth 100000 in
theorem gJ2_checkIndex_2214a_J0_checkIndex_df160 : GoodIn wsJ2_checkIndex_2214a (va_wsS RJ2 414 yJ0_checkIndex_df160 wsJ0_checkIndex_df160) := goodIn_app (goodIn_r _ [5, 6, 7] rfl rfl) ggJ2_checkIndex_2214a_J0_checkIndex_df160
