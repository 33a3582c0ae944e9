/-- words among others, by pieces -/
theorem yzc {big : List Cond} {C : List (List Cond)} (hC : big = C.flatten) (ws : List Cond) (ps : List Nat) (hp : ws.map some = ps.map (fun p => (C.getD (Nat.div p 1024) [])[Nat.mod p 1024]?)) : ∀ w ∈ ws, w ∈ big := by
  intro w hw
  have h2 : some w ∈ ws.map some := List.mem_map.mpr ⟨w, hw, rfl⟩
  rw [hp] at h2
  obtain ⟨p, -, hq⟩ := List.mem_map.mp h2
  have hm : w ∈ C.getD (Nat.div p 1024) [] := List.mem_of_getElem? hq
  rw [hC]
  cases e : C[Nat.div p 1024]? with
  | none =>
    rw [List.getD_eq_getElem?_getD, e] at hm
    exact absurd hm List.not_mem_nil
  | some c =>
    rw [List.getD_eq_getElem?_getD, e] at hm
    exact List.mem_flatten.mpr ⟨c, List.mem_of_getElem? e, hm⟩
def yC_lw : List (List Cond) := [k2_sels lw_privs, tables_1_1, tables_1_2, tables_1_3, tables_1_4, tables_1_5, tables_1_6]
theorem yCe_lw : lw_tbl = yC_lw.flatten := by
  simp only [lw_tbl, tables_1, yC_lw, List.flatten_cons, List.flatten_nil, List.append_nil]
set_option maxRecDepth 20000 in
theorem in_wsL_law_r1 : ∀ w ∈ wsL_law_r1, w ∈ lw_tbl := yzc yCe_lw _ [1041, 1042, 1025, 4212, 4213, 1033, 1043, 1044, 1045, 1046, 1047, 1048, 1049, 1050, 1026, 2080, 2081, 2082, 1197, 1198, 1029, 2083, 1220, 2084] rfl
set_option maxRecDepth 20000 in
theorem in_wsL_law_r2 : ∀ w ∈ wsL_law_r2, w ∈ lw_tbl := yzc yCe_lw _ [1263, 2048, 1031, 2085, 2061, 2086, 2063, 1032, 1052, 1053, 1054, 1113, 1088, 1124, 1126, 1129, 1135, 1137, 1139, 1141, 1055, 1056, 1027, 1143] rfl
set_option maxRecDepth 20000 in
theorem in_wsL_law_r3 : ∀ w ∈ wsL_law_r3, w ∈ lw_tbl := yzc yCe_lw _ [1146, 1089, 1090, 1028, 1147, 1058, 1059, 1060, 1065, 1068, 1071, 1074, 1092, 1093, 1094, 1100, 1103, 1200, 1201, 1202, 1203, 1204, 1030, 1219] rfl
set_option maxRecDepth 20000 in
theorem in_wsL_law_r4 : ∀ w ∈ wsL_law_r4, w ∈ lw_tbl := yzc yCe_lw _ [1206, 1207, 1208, 1212, 2050, 2051, 2052, 2060, 2053, 2054, 2065, 2066, 2067, 2068, 2071, 4214, 4215, 4216, 4217, 4226, 4227, 4228, 4232, 4233] rfl
set_option maxRecDepth 20000 in
theorem in_wsL_law_r5 : ∀ w ∈ wsL_law_r5, w ∈ lw_tbl := yzc yCe_lw _ [4238, 4239, 4242, 4250, 4253, 4254, 4255, 4256, 4257, 4218, 4220, 25, 4221, 4234, 4235, 4236, 4237, 4240, 4241, 4222, 4224, 26, 4225, 4229] rfl
set_option maxRecDepth 20000 in
theorem in_wsL_law_r6 : ∀ w ∈ wsL_law_r6, w ∈ lw_tbl := yzc yCe_lw _ [4230, 4231, 2108, 2109, 2110, 2111, 1210, 2112, 2113, 2114, 2115, 2116, 2117, 2118, 1209, 4326, 4327, 4328, 4329, 4330, 4243, 4331, 4332, 4333] rfl
set_option maxRecDepth 20000 in
theorem in_wsL_law_r7 : ∀ w ∈ wsL_law_r7, w ∈ lw_tbl := yzc yCe_lw _ [2119, 2120, 2121, 2122, 4334, 4335, 5120, 5121, 2123, 2124, 2125, 2126, 1225, 1227, 2087, 1229, 2127, 2128, 2129, 2130, 1221, 1224, 1226, 1228] rfl
set_option maxRecDepth 20000 in
theorem in_wsL_law_r8 : ∀ w ∈ wsL_law_r8, w ∈ lw_tbl := yzc yCe_lw _ [1230, 1231, 1232, 1233, 1234, 1235, 1222, 1115, 1120, 1211, 2131, 2132, 2133, 2134, 1117, 1121, 1132, 1062, 1097, 1151, 1153, 1155, 1157, 2135] rfl
set_option maxRecDepth 20000 in
theorem in_wsL_law_r9 : ∀ w ∈ wsL_law_r9, w ∈ lw_tbl := yzc yCe_lw _ [2136, 2137, 2138, 2139, 2141, 0, 2142, 1213, 1223, 2143, 2144, 2145, 2146, 2148, 1, 2149, 2150, 2152, 2, 2153, 2155, 2157, 3, 2158] rfl
set_option maxRecDepth 20000 in
theorem in_wsL_law_r10 : ∀ w ∈ wsL_law_r10, w ∈ lw_tbl := yzc yCe_lw _ [2159, 2160, 2161, 1034, 2162, 6259, 2163, 2164, 2165, 2166, 2167, 6260, 2169, 2170, 2171, 2172, 2173, 2174, 2175, 2176, 2177, 2178, 1035, 2179] rfl
set_option maxRecDepth 20000 in
theorem in_wsL_law_r11 : ∀ w ∈ wsL_law_r11, w ∈ lw_tbl := yzc yCe_lw _ [2180, 2181, 2182, 2183, 2185, 2186, 1036, 2187, 2188, 2189, 1037, 2190, 2191, 2192, 2193, 2194, 2195, 2196, 2197, 2198, 2199, 2200, 2201, 2203] rfl
set_option maxRecDepth 20000 in
theorem in_wsL_law_r12 : ∀ w ∈ wsL_law_r12, w ∈ lw_tbl := yzc yCe_lw _ [2205, 2207, 2209, 4, 2210, 1118, 2211, 2213, 5, 2214, 2215, 2217, 6, 2218, 2222, 2224, 7, 2225, 2226, 2227, 2228, 2229, 2231, 2233] rfl
set_option maxRecDepth 20000 in
theorem in_wsL_law_r13 : ∀ w ∈ wsL_law_r13, w ∈ lw_tbl := yzc yCe_lw _ [8, 2234, 1127, 1131, 2235, 2237, 9, 2238, 2239, 2240, 1038, 2241, 2242, 2244, 10, 2245, 2247, 2248, 2250, 2251, 2252, 2254, 11, 2255] rfl
set_option maxRecDepth 20000 in
theorem in_wsL_law_r14 : ∀ w ∈ wsL_law_r14, w ∈ lw_tbl := yzc yCe_lw _ [2257, 2259, 12, 2260, 1134, 2262, 2264, 13, 2265, 2266, 2268, 14, 2269, 2275, 2277, 15, 2278, 2279, 2281, 2283, 16, 2284, 1145, 1064] rfl
set_option maxRecDepth 20000 in
theorem in_wsL_law_r15 : ∀ w ∈ wsL_law_r15, w ∈ lw_tbl := yzc yCe_lw _ [2286, 2287, 3072, 3073, 3074, 3075, 1061, 3077, 3079, 17, 3080, 1150, 1099, 3081, 3082, 3083, 3084, 1095, 3085, 3087, 18, 3088, 3089, 3090] rfl
set_option maxRecDepth 20000 in
theorem in_wsL_law_r16 : ∀ w ∈ wsL_law_r16, w ∈ lw_tbl := yzc yCe_lw _ [3091, 3092, 3093, 3095, 3094, 1039, 3096, 3097, 3098, 3099, 3100, 3101, 3102, 3103, 3104, 3105, 5122, 5123, 5124, 5125, 4248, 4244, 4246, 4249] rfl
set_option maxRecDepth 20000 in
theorem in_wsL_law_r17 : ∀ w ∈ wsL_law_r17, w ∈ lw_tbl := yzc yCe_lw _ [5126, 5128, 27, 5129, 4245, 5134, 5135, 5136, 5137, 4247, 5130, 5132, 28, 5133, 5138, 5140, 29, 5141, 5142, 5144, 30, 5145, 5146, 5148] rfl
set_option maxRecDepth 20000 in
theorem in_wsL_law_r18 : ∀ w ∈ wsL_law_r18, w ∈ lw_tbl := yzc yCe_lw _ [31, 5149, 5150, 5152, 32, 5153, 5154, 5156, 33, 5157, 5158, 5160, 34, 5161, 5162, 5164, 35, 5165, 5166, 5168, 36, 5169, 5170, 5172] rfl
set_option maxRecDepth 20000 in
theorem in_wsL_law_r19 : ∀ w ∈ wsL_law_r19, w ∈ lw_tbl := yzc yCe_lw _ [37, 5173, 5174, 5176, 38, 5177, 5178, 5180, 39, 5181, 5182, 5184, 40, 5185, 5186, 5188, 41, 5189, 5190, 5192, 42, 5193, 5194, 5196] rfl
set_option maxRecDepth 20000 in
theorem in_wsL_law_r20 : ∀ w ∈ wsL_law_r20, w ∈ lw_tbl := yzc yCe_lw _ [43, 5197, 5198, 5200, 44, 5201, 5202, 5204, 45, 5205, 5206, 5208, 46, 5209, 5210, 5212, 47, 5213, 3107, 3108, 3109, 3110, 5214, 5215] rfl
set_option maxRecDepth 20000 in
theorem in_wsL_law_r21 : ∀ w ∈ wsL_law_r21, w ∈ lw_tbl := yzc yCe_lw _ [5216, 5217, 3111, 3112, 3113, 3114, 1116, 1119, 1123, 1144, 1063, 1149, 1098, 1152, 1154, 1156, 1158, 5218, 5219, 5220, 5221, 5225, 5226, 5222] rfl
set_option maxRecDepth 20000 in
theorem in_wsL_law_r22 : ∀ w ∈ wsL_law_r22, w ∈ lw_tbl := yzc yCe_lw _ [5223, 5224, 3115, 3116, 3117, 3118, 1128, 1130, 1133, 1136, 1138, 1140, 1142, 3119, 3120, 3121, 3122, 3124, 3125, 3126, 3127, 5227, 5228, 5229] rfl
set_option maxRecDepth 20000 in
theorem in_wsL_law_r23 : ∀ w ∈ wsL_law_r23, w ∈ lw_tbl := yzc yCe_lw _ [5230, 5231, 5233, 48, 5234, 5235, 5237, 49, 5238, 3128, 3129, 3130, 3131, 1125, 3132, 3133, 3134, 3135, 5239, 5240, 5241, 5242, 3136, 3137] rfl
set_option maxRecDepth 20000 in
theorem in_wsL_law_r24 : ∀ w ∈ wsL_law_r24, w ∈ lw_tbl := yzc yCe_lw _ [3138, 3139, 1066, 1069, 1072, 1075, 5243, 5244, 5245, 5246, 5247, 3140, 3141, 3142, 3143, 1102, 1105, 5248, 5249, 5250, 5251, 3144, 3145, 3146] rfl
set_option maxRecDepth 20000 in
theorem in_wsL_law_r25 : ∀ w ∈ wsL_law_r25, w ∈ lw_tbl := yzc yCe_lw _ [3147, 5252, 5253, 5254, 5255, 5256, 5257, 5259, 50, 5260, 3148, 3149, 3150, 3151, 3152, 5261, 5262, 5263, 5264, 3153, 3154, 3155, 3156, 5265] rfl
set_option maxRecDepth 20000 in
theorem in_wsL_law_r26 : ∀ w ∈ wsL_law_r26, w ∈ lw_tbl := yzc yCe_lw _ [5266, 5267, 5268, 3157, 3158, 3159, 3160, 3161, 3162, 3163, 3164, 5269, 5270, 5271, 5272, 5277, 5273, 5274, 5275, 5276, 3165, 3166, 3167, 3168] rfl
set_option maxRecDepth 20000 in
theorem in_wsL_law_r27 : ∀ w ∈ wsL_law_r27, w ∈ lw_tbl := yzc yCe_lw _ [3169, 3170, 5278, 5279, 5280, 5281, 5282, 5283, 5284, 3171, 3172, 3173, 3174, 3175, 5285, 5286, 5287, 5288, 3176, 3177, 3178, 3179, 5289, 5290] rfl
set_option maxRecDepth 20000 in
theorem in_wsL_law_r28 : ∀ w ∈ wsL_law_r28, w ∈ lw_tbl := yzc yCe_lw _ [5291, 5292, 3180, 3181, 3182, 3183, 3184, 3185, 3186, 3187, 3188, 3189, 1040, 3190, 3191, 3192, 3193, 5293, 5294, 5295, 5296, 5297, 5299, 51] rfl
set_option maxRecDepth 20000 in
theorem in_wsL_law_r29 : ∀ w ∈ wsL_law_r29, w ∈ lw_tbl := yzc yCe_lw _ [5300, 5301, 5303, 52, 5304, 5305, 5306, 5307, 3194, 3195, 3196, 3197, 3198, 3199, 3200, 3201, 3202, 3203, 3204, 3205, 1070, 1067, 3206, 3207] rfl
set_option maxRecDepth 20000 in
theorem in_wsL_law_r30 : ∀ w ∈ wsL_law_r30, w ∈ lw_tbl := yzc yCe_lw _ [3208, 3209, 3210, 3211, 3212, 3213, 3214, 3215, 3216, 3218, 19, 3219, 1073, 1076, 3221, 3222, 3224, 20, 3225, 3227, 3228, 3229, 3230, 5308] rfl
set_option maxRecDepth 20000 in
theorem in_wsL_law_r31 : ∀ w ∈ wsL_law_r31, w ∈ lw_tbl := yzc yCe_lw _ [5309, 5310, 5311, 5312, 4252, 5313, 5315, 53, 5316, 5317, 5319, 54, 5320, 5321, 5323, 55, 5324, 4251, 5325, 5326, 5327, 5328, 5329, 5330] rfl
set_option maxRecDepth 20000 in
theorem in_wsL_law_r32 : ∀ w ∈ wsL_law_r32, w ∈ lw_tbl := yzc yCe_lw _ [5331, 5333, 56, 5334, 5335, 5337, 57, 5338, 5339, 5341, 58, 5342, 5343, 5345, 59, 5346, 3231, 3232, 3233, 3234, 5347, 5348, 5349, 5350] rfl
set_option maxRecDepth 20000 in
theorem in_wsL_law_r33 : ∀ w ∈ wsL_law_r33, w ∈ lw_tbl := yzc yCe_lw _ [3235, 3236, 3237, 3238, 3239, 5351, 5352, 5353, 5354, 3240, 3241, 3242, 3243, 3244, 3245, 3246, 3247, 1114, 3269, 3249, 3250, 3251, 3252, 3253] rfl
set_option maxRecDepth 20000 in
theorem in_wsL_law_r34 : ∀ w ∈ wsL_law_r34, w ∈ lw_tbl := yzc yCe_lw _ [1122, 1148, 1096, 1104, 1101, 3254, 3255, 3256, 3257, 3258, 3260, 21, 3261, 3262, 3264, 22, 3265, 3270, 3271, 3272, 3273, 3274, 3275, 3276] rfl
set_option maxRecDepth 20000 in
theorem in_wsL_law_r35 : ∀ w ∈ wsL_law_r35, w ∈ lw_tbl := yzc yCe_lw _ [5355, 5356, 5357, 5358, 5359, 6168, 6144, 6146, 60, 6147, 6148, 6150, 61, 6151, 6152, 6154, 62, 6155, 6156, 6158, 63, 6159, 6160, 6162] rfl
set_option maxRecDepth 20000 in
theorem in_wsL_law_r36 : ∀ w ∈ wsL_law_r36, w ∈ lw_tbl := yzc yCe_lw _ [64, 6163, 6164, 6166, 65, 6167, 3277, 3278, 3279, 3280, 3281, 3282, 3283, 3284, 6169, 6170, 6171, 6172, 3285, 3286, 3287, 3288, 3289, 6173] rfl
set_option maxRecDepth 20000 in
theorem in_wsL_law_r37 : ∀ w ∈ wsL_law_r37, w ∈ lw_tbl := yzc yCe_lw _ [6174, 6175, 6176, 3290, 3291, 3292, 3293, 3294, 3295, 3296, 3297, 6177, 6178, 6179, 6180, 6181, 6183, 66, 6184, 6185, 6187, 67, 6188, 3298] rfl
set_option maxRecDepth 20000 in
theorem in_wsL_law_r38 : ∀ w ∈ wsL_law_r38, w ∈ lw_tbl := yzc yCe_lw _ [3299, 3300, 3301, 3302, 3303, 3304, 3305, 3306, 6189, 6190, 6191, 6192, 3307, 3308, 3309, 3310, 6193, 6194, 6195, 6196, 6197, 3311, 4096, 4097] rfl
set_option maxRecDepth 20000 in
theorem in_wsL_law_r39 : ∀ w ∈ wsL_law_r39, w ∈ lw_tbl := yzc yCe_lw _ [4098, 4099, 4108, 4100, 4101, 4102, 4103, 4104, 4106, 23, 4107, 4109, 4110, 4111, 6198, 6199, 6200, 6201, 6202, 6203, 6205, 68, 6206, 6207] rfl
set_option maxRecDepth 20000 in
theorem in_wsL_law_r40 : ∀ w ∈ wsL_law_r40, w ∈ lw_tbl := yzc yCe_lw _ [6208, 6209, 6210, 6211, 6212, 4112, 4113, 4114, 4115, 4116, 4117, 4118, 4119, 4120, 4121, 4122, 4123, 4124, 6213, 6214, 6215, 6216, 4125, 4126] rfl
set_option maxRecDepth 20000 in
theorem in_wsL_law_r41 : ∀ w ∈ wsL_law_r41, w ∈ lw_tbl := yzc yCe_lw _ [4127, 4128, 4129, 4130, 4131, 4132, 1038, 4133, 4134, 4135, 4136, 4137, 4138, 6217, 6218, 6219, 6220, 6221, 4139, 4140, 4141, 4142, 6222, 6223] rfl
set_option maxRecDepth 20000 in
theorem in_wsL_law_r42 : ∀ w ∈ wsL_law_r42, w ∈ lw_tbl := yzc yCe_lw _ [6224, 6225, 6226, 6228, 69, 6229, 4143, 4144, 4145, 4146, 6230, 6231, 6232, 6233, 4147, 4148, 4149, 4150, 4151, 4152, 4153, 4154, 4155, 4156] rfl
set_option maxRecDepth 20000 in
theorem in_wsL_law_r43 : ∀ w ∈ wsL_law_r43, w ∈ lw_tbl := yzc yCe_lw _ [4157, 4158, 4159, 4160, 2069, 6234, 6235, 6236, 6237, 6238, 6239, 6240, 6241, 4161, 4162, 4163, 4164, 4165, 4166, 4167, 4168, 4169, 4170, 4171] rfl
set_option maxRecDepth 20000 in
theorem in_wsL_law_r44 : ∀ w ∈ wsL_law_r44, w ∈ lw_tbl := yzc yCe_lw _ [4172, 4174, 4175, 4176, 4177, 6242, 6243, 6244, 6245, 4178, 4179, 4180, 4181, 2072, 2088, 4182, 4183, 4184, 4185, 4186, 4188, 24, 4189, 4190] rfl
set_option maxRecDepth 20000 in
theorem in_wsL_law_r45 : ∀ w ∈ wsL_law_r45, w ∈ lw_tbl := yzc yCe_lw _ [6246, 6247, 6248, 6249, 4258, 6250, 4191, 4192, 4193, 4194, 6251, 6252, 6253, 6254, 4195, 4196, 4197, 4198, 2070, 4199, 4200, 4201, 4202, 4203] rfl
set_option maxRecDepth 20000 in
theorem in_wsL_law_r46 : ∀ w ∈ wsL_law_r46, w ∈ lw_tbl := yzc yCe_lw _ [4204, 4205, 4206, 4207, 4208, 4209, 4210, 4211, 6255, 6256, 6257, 6258] rfl
set_option maxRecDepth 20000 in
theorem inX0 : ∀ w ∈ wsX00, w ∈ lw_tbl := yzc yCe_lw _ [2055, 2057] rfl
set_option maxRecDepth 20000 in
theorem inX1 : ∀ w ∈ wsX10, w ∈ lw_tbl := yzc yCe_lw _ [1236, 1238, 1240, 1242, 1244, 1246, 1248, 1250, 1252, 1254, 1256, 1258, 1260] rfl
set_option maxRecDepth 20000 in
theorem inX2 : ∀ w ∈ wsX20, w ∈ lw_tbl := yzc yCe_lw _ [2073, 2075, 2077] rfl
set_option maxRecDepth 20000 in
theorem inX3 : ∀ w ∈ wsX30, w ∈ lw_tbl := yzc yCe_lw _ [1214, 1216] rfl
set_option maxRecDepth 20000 in
theorem inX4 : ∀ w ∈ wsX40, w ∈ lw_tbl := yzc yCe_lw _ [1159, 1161, 1163, 1165, 1167, 1169, 1171, 1173, 1175, 1177, 1179, 1181, 1183, 1185, 1187, 1189, 1191, 1193] rfl
set_option maxRecDepth 20000 in
theorem inX5 : ∀ w ∈ wsX50, w ∈ lw_tbl := yzc yCe_lw _ [1077, 1079, 1081, 1083, 1085] rfl
set_option maxRecDepth 20000 in
theorem inX6 : ∀ w ∈ wsX60, w ∈ lw_tbl := yzc yCe_lw _ [1106, 1108, 1110] rfl
set_option maxRecDepth 20000 in
theorem inX7 : ∀ w ∈ wsX70, w ∈ lw_tbl := yzc yCe_lw _ [2089, 2091, 2093, 2095, 2097, 2099, 2101, 2103, 2105] rfl
set_option maxRecDepth 20000 in
theorem inX8 : ∀ w ∈ wsX80, w ∈ lw_tbl := yzc yCe_lw _ [4259, 4261, 4263, 4265, 4267, 4269, 4271, 4273, 4275, 4277, 4279, 4281, 4283, 4285, 4287, 4289, 4291, 4293, 4295, 4297, 4299, 4301, 4303, 4305, 4307, 4309, 4311, 4313, 4315, 4317, 4319, 4321, 4323] rfl
theorem wsL_law_in : ∀ w ∈ wsL_law, w ∈ lw_tbl := List.forall_mem_append.mpr ⟨List.forall_mem_append.mpr ⟨List.forall_mem_append.mpr ⟨List.forall_mem_append.mpr ⟨List.forall_mem_append.mpr ⟨List.forall_mem_append.mpr ⟨List.forall_mem_append.mpr ⟨List.forall_mem_append.mpr ⟨List.forall_mem_append.mpr ⟨List.forall_mem_append.mpr ⟨List.forall_mem_append.mpr ⟨in_wsL_law_r1, List.forall_mem_append.mpr ⟨in_wsL_law_r2, List.forall_mem_append.mpr ⟨in_wsL_law_r3, List.forall_mem_append.mpr ⟨in_wsL_law_r4, List.forall_mem_append.mpr ⟨in_wsL_law_r5, List.forall_mem_append.mpr ⟨in_wsL_law_r6, List.forall_mem_append.mpr ⟨in_wsL_law_r7, List.forall_mem_append.mpr ⟨in_wsL_law_r8, List.forall_mem_append.mpr ⟨in_wsL_law_r9, List.forall_mem_append.mpr ⟨in_wsL_law_r10, List.forall_mem_append.mpr ⟨in_wsL_law_r11, List.forall_mem_append.mpr ⟨in_wsL_law_r12, List.forall_mem_append.mpr ⟨in_wsL_law_r13, List.forall_mem_append.mpr ⟨in_wsL_law_r14, List.forall_mem_append.mpr ⟨in_wsL_law_r15, List.forall_mem_append.mpr ⟨in_wsL_law_r16, List.forall_mem_append.mpr ⟨in_wsL_law_r17, List.forall_mem_append.mpr ⟨in_wsL_law_r18, List.forall_mem_append.mpr ⟨in_wsL_law_r19, List.forall_mem_append.mpr ⟨in_wsL_law_r20, List.forall_mem_append.mpr ⟨in_wsL_law_r21, List.forall_mem_append.mpr ⟨in_wsL_law_r22, List.forall_mem_append.mpr ⟨in_wsL_law_r23, List.forall_mem_append.mpr ⟨in_wsL_law_r24, List.forall_mem_append.mpr ⟨in_wsL_law_r25, List.forall_mem_append.mpr ⟨in_wsL_law_r26, List.forall_mem_append.mpr ⟨in_wsL_law_r27, List.forall_mem_append.mpr ⟨in_wsL_law_r28, List.forall_mem_append.mpr ⟨in_wsL_law_r29, List.forall_mem_append.mpr ⟨in_wsL_law_r30, List.forall_mem_append.mpr ⟨in_wsL_law_r31, List.forall_mem_append.mpr ⟨in_wsL_law_r32, List.forall_mem_append.mpr ⟨in_wsL_law_r33, List.forall_mem_append.mpr ⟨in_wsL_law_r34, List.forall_mem_append.mpr ⟨in_wsL_law_r35, List.forall_mem_append.mpr ⟨in_wsL_law_r36, List.forall_mem_append.mpr ⟨in_wsL_law_r37, List.forall_mem_append.mpr ⟨in_wsL_law_r38, List.forall_mem_append.mpr ⟨in_wsL_law_r39, List.forall_mem_append.mpr ⟨in_wsL_law_r40, List.forall_mem_append.mpr ⟨in_wsL_law_r41, List.forall_mem_append.mpr ⟨in_wsL_law_r42, List.forall_mem_append.mpr ⟨in_wsL_law_r43, List.forall_mem_append.mpr ⟨in_wsL_law_r44, List.forall_mem_append.mpr ⟨in_wsL_law_r45, in_wsL_law_r46⟩⟩⟩⟩⟩⟩⟩⟩⟩⟩⟩⟩⟩⟩⟩⟩⟩⟩⟩⟩⟩⟩⟩⟩⟩⟩⟩⟩⟩⟩⟩⟩⟩⟩⟩⟩⟩⟩⟩⟩⟩⟩⟩⟩⟩, inX7⟩, inX8⟩, inX4⟩, inX1⟩, inX0⟩, inX2⟩, inX5⟩, inX6⟩, inX3⟩, fun _ h => absurd h List.not_mem_nil⟩
