set_option maxRecDepth 100000 in
theorem ggX0_fewestVows_X7_numbersOf : GoodIn wsX0_fewestVows wsX7_numbersOf := goodIn_r _ [10] rfl (by decide +kernel)
set_option maxRecDepth 100000 in
theorem gX0_fewestVows_X7_numbersOf_n25 : GoodIn wsX0_fewestVows (wsX7_numbersOf) := ggX0_fewestVows_X7_numbersOf
set_option maxRecDepth 100000 in
theorem ggX0_fewestVows_X0_wantsBrought : GoodIn wsX0_fewestVows wsX0_wantsBrought := goodIn_r _ [14, 15, 16, 17, 18, 19, 20, 21, 22, 23, 24, 25, 26, 27, 28, 29, 30, 31, 32, 33, 34, 35, 36, 37, 38, 39, 40, 41, 42, 43, 9, 44, 45, 46, 52, 53, 54, 55, 56, 57, 58, 59, 60, 61, 62, 63, 64, 65, 66, 67, 68, 69, 70, 71, 72] rfl (by decide +kernel)
set_option maxRecDepth 100000 in
theorem gX0_fewestVows_X0_wantsBrought : GoodIn wsX0_fewestVows (va_wsS RX0 29 yX0_wantsBrought wsX0_wantsBrought) := goodIn_app (goodIn_r _ [11, 12, 13] rfl (by decide +kernel)) ggX0_fewestVows_X0_wantsBrought
set_option maxRecDepth 100000 in
theorem ggX0_fewestVows_X0_allWants : GoodIn wsX0_fewestVows wsX0_allWants := goodIn_r _ [49, 16, 17, 52, 53, 54, 55, 56, 57, 58, 59, 60, 61, 62, 63, 64, 65, 66, 67, 68, 69, 70, 71, 72] rfl (by decide +kernel)
set_option maxRecDepth 100000 in
theorem gX0_fewestVows_X0_allWants : GoodIn wsX0_fewestVows (va_wsS RX0 39 yX0_allWants wsX0_allWants) := goodIn_app (goodIn_r _ [47, 48, 13] rfl (by decide +kernel)) ggX0_fewestVows_X0_allWants
set_option maxRecDepth 100000 in
theorem ggX0_vowOfFirstSet_X0_allWants : GoodIn wsX0_vowOfFirstSet wsX0_allWants := goodIn_r _ [6, 7, 8, 45, 46, 47, 48, 49, 50, 51, 52, 53, 54, 55, 56, 57, 58, 59, 60, 61, 62, 65, 66, 67] rfl (by decide +kernel)
set_option maxRecDepth 100000 in
theorem gX0_vowOfFirstSet_X0_allWants : GoodIn wsX0_vowOfFirstSet (va_wsS RX0 39 yX0_allWants wsX0_allWants) := goodIn_app (goodIn_r _ [3, 4, 5] rfl (by decide +kernel)) ggX0_vowOfFirstSet_X0_allWants
set_option maxRecDepth 100000 in
theorem ggX0_vowOfFirstSet_X7_numbersOf : GoodIn wsX0_vowOfFirstSet wsX7_numbersOf := goodIn_r _ [11] rfl (by decide +kernel)
set_option maxRecDepth 100000 in
theorem gX0_vowOfFirstSet_X7_numbersOf_n25 : GoodIn wsX0_vowOfFirstSet (wsX7_numbersOf) := ggX0_vowOfFirstSet_X7_numbersOf
set_option maxRecDepth 100000 in
theorem ggX0_vowOfFirstSet_X0_wantsBrought : GoodIn wsX0_vowOfFirstSet wsX0_wantsBrought := goodIn_r _ [14, 15, 7, 8, 16, 17, 18, 19, 20, 21, 22, 23, 24, 25, 26, 27, 28, 29, 30, 31, 32, 33, 34, 35, 36, 37, 38, 39, 40, 41, 10, 42, 43, 44, 45, 46, 47, 48, 49, 50, 51, 52, 53, 54, 55, 56, 57, 58, 59, 60, 61, 62, 65, 66, 67] rfl (by decide +kernel)
set_option maxRecDepth 100000 in
theorem gX0_vowOfFirstSet_X0_wantsBrought : GoodIn wsX0_vowOfFirstSet (va_wsS RX0 29 yX0_wantsBrought wsX0_wantsBrought) := goodIn_app (goodIn_r _ [12, 13, 5] rfl (by decide +kernel)) ggX0_vowOfFirstSet_X0_wantsBrought
set_option maxRecDepth 100000 in
theorem ggX0_wantsBrought_X4_broughtBy : GoodIn wsX0_wantsBrought wsX4_broughtBy := goodIn_r _ [10, 11, 12, 13, 14, 15, 16, 9, 17, 18, 19, 20, 21, 22, 23, 24, 25, 26, 27, 28, 29, 30, 31, 32, 33, 34, 35, 36, 37, 38, 39, 40, 41, 42, 43, 44, 45, 46, 47, 48, 49, 50, 51] rfl (by decide +kernel)
set_option maxRecDepth 100000 in
theorem gX0_wantsBrought_X4_broughtBy : GoodIn wsX0_wantsBrought (wsV RX0 55 RX4 yX4_broughtBy wsX4_broughtBy) := goodIn_app (goodIn_r _ [6, 7, 8, 9] rfl (by decide +kernel)) ggX0_wantsBrought_X4_broughtBy
set_option maxRecDepth 100000 in
theorem ggX0_wantsBrought_X7_bit : GoodIn wsX0_wantsBrought wsX7_bit := goodIn_r _ [31] rfl (by decide +kernel)
set_option maxRecDepth 100000 in
theorem gX0_wantsBrought_X7_bit_n64 : GoodIn wsX0_wantsBrought (wsX7_bit) := ggX0_wantsBrought_X7_bit
set_option maxRecDepth 100000 in
theorem ggX0_wantsBrought_X7_withBit : GoodIn wsX0_wantsBrought wsX7_withBit := goodIn_r _ [33] rfl (by decide +kernel)
set_option maxRecDepth 100000 in
theorem gX0_wantsBrought_X7_withBit_n67 : GoodIn wsX0_wantsBrought (wsX7_withBit) := ggX0_wantsBrought_X7_withBit
set_option maxRecDepth 100000 in
theorem ggX1_init_X3_init : GoodIn wsX1_init wsX3_init := goodIn_r _ [9, 10, 2, 3, 11, 12, 13, 14] rfl (by decide +kernel)
set_option maxRecDepth 100000 in
theorem gX1_init_X3_init_n11 : GoodIn wsX1_init (wsX3_init) := ggX1_init_X3_init
set_option maxRecDepth 100000 in
theorem ggX1_readInto_X4_makeNew : GoodIn wsX1_readInto wsX4_makeNew := goodIn_r _ [20, 21, 22, 23, 24, 25, 26, 27, 28, 29, 30, 31, 32, 33, 34, 35, 36, 37, 38, 19, 39, 40, 41, 42, 233, 234, 235, 236, 237, 238, 239, 240, 241, 242, 243, 244, 245, 246, 247, 248, 249, 250, 253, 254, 255, 256, 257, 258, 259, 260] rfl (by decide +kernel)
set_option maxRecDepth 100000 in
theorem gX1_readInto_X4_makeNew : GoodIn wsX1_readInto (wsV RX1 18 RX4 yX4_makeNew wsX4_makeNew) := goodIn_app (goodIn_r _ [16, 17, 18, 19] rfl (by decide +kernel)) ggX1_readInto_X4_makeNew
set_option maxRecDepth 100000 in
theorem ggX1_readInto_X1_readToken : GoodIn wsX1_readInto wsX1_readToken := goodIn_r _ [47, 2, 1, 14, 15, 48, 49, 11, 50, 51, 46, 52, 53, 54, 55, 56, 3, 220, 221, 222, 223, 224, 225, 226, 227, 228, 229, 230, 231, 232, 251, 252] rfl (by decide +kernel)
set_option maxRecDepth 100000 in
theorem gX1_readInto_X1_readToken : GoodIn wsX1_readInto (wsV RX1 55 RX1 yX1_readToken wsX1_readToken) := goodIn_app (goodIn_r _ [43, 44, 45, 46] rfl (by decide +kernel)) ggX1_readInto_X1_readToken
set_option maxRecDepth 100000 in
theorem ggX1_readInto_X1_readLine : GoodIn wsX1_readInto wsX1_readLine := goodIn_r _ [60, 49, 61, 62, 63, 46, 64, 11, 1, 14, 48, 65, 66, 67, 68, 69, 70, 71, 72, 73, 74, 75, 76, 77, 78, 79, 80, 81, 82, 83, 84, 85, 86, 87, 88, 89, 90, 91, 92, 93, 94, 95, 96, 97, 98, 99, 100, 101, 102, 103, 104, 105, 106, 107, 108, 109, 110, 111, 112, 113, 114, 115, 116, 117, 5, 12, 118, 53, 54, 55, 56, 2, 3, 119, 120, 121, 122, 43, 44, 45, 47, 15, 50, 51, 52, 123, 124, 125, 126, 127, 128, 129, 130, 131, 132, 133, 13, 134, 135, 136, 19, 137, 23, 138, 139, 140, 141, 142, 6, 143, 144, 145, 146, 147, 148, 9, 149, 150, 151, 152, 153, 154, 155, 156, 157, 158, 159, 160, 161, 162, 163, 164, 10, 165, 166, 167, 168, 7, 169, 170, 171, 172, 173, 8, 174, 175, 176, 177, 178, 179, 180, 181, 182, 37, 38, 39, 40, 41, 42, 183, 184, 185, 186, 187, 188, 189, 190, 191, 192, 193, 194, 195, 196, 197, 198, 199, 200, 201, 202, 203, 204, 205, 206, 207, 208, 209, 210, 211, 212, 213, 214, 215, 220, 221, 222, 223, 224, 225, 226, 227, 228, 229, 230, 231, 232, 251, 252, 233, 234, 235, 236, 237, 238, 239, 240, 241, 242, 243, 244, 245, 246, 247, 248, 249, 250, 253, 254, 255, 256, 257, 258, 259, 260] rfl (by decide +kernel)
set_option maxRecDepth 100000 in
theorem gX1_readInto_X1_readLine : GoodIn wsX1_readInto (wsV RX1 61 RX1 yX1_readLine wsX1_readLine) := goodIn_app (goodIn_r _ [57, 58, 59, 46] rfl (by decide +kernel)) ggX1_readInto_X1_readLine
set_option maxRecDepth 100000 in
theorem ggX1_readInto_X1_needStroke : GoodIn wsX1_readInto wsX1_needStroke := goodIn_r _ [219, 11, 49, 53, 54, 55, 46, 56, 2, 3, 220, 221, 222, 223, 224, 225, 226, 227, 228, 229, 230, 231, 232] rfl (by decide +kernel)
set_option maxRecDepth 100000 in
theorem gX1_readInto_X1_needStroke : GoodIn wsX1_readInto (wsV RX1 65 RX1 yX1_needStroke wsX1_needStroke) := goodIn_app (goodIn_r _ [216, 217, 218, 46] rfl (by decide +kernel)) ggX1_readInto_X1_needStroke
set_option maxRecDepth 100000 in
theorem ggX1_readInto_X1_complain : GoodIn wsX1_readInto wsX1_complain := goodIn_r _ [56, 2, 3, 220, 221, 222, 223, 224, 225, 226, 227, 228, 229, 230, 231, 232] rfl (by decide +kernel)
set_option maxRecDepth 100000 in
theorem gX1_readInto_X1_complain : GoodIn wsX1_readInto (wsV RX1 77 RX1 yX1_complain wsX1_complain) := goodIn_app (goodIn_r _ [53, 54, 55, 46] rfl (by decide +kernel)) ggX1_readInto_X1_complain
set_option maxRecDepth 100000 in
theorem ggX1_readLine_X1_isName : GoodIn wsX1_readLine wsX1_isName := goodIn_r _ [6, 7, 8, 1, 9, 10, 11, 12, 13, 14, 15, 16, 17, 18, 19, 20, 21, 22, 23, 24, 25, 26, 27, 28, 29, 30, 31, 32, 33, 34, 35, 36, 37, 38, 39, 40, 41, 42, 43, 44, 45, 46, 47, 48, 49, 50, 51, 52, 53, 54, 55, 56, 57, 58, 59, 192, 193, 194, 195, 196, 197, 198, 199, 200, 201, 202, 203, 204, 205, 206] rfl (by decide +kernel)
set_option maxRecDepth 100000 in
theorem gX1_readLine_X1_isName : GoodIn wsX1_readLine (wsV RX1 83 RX1 yX1_isName wsX1_isName) := goodIn_app (goodIn_r _ [2, 3, 4, 5] rfl (by decide +kernel)) ggX1_readLine_X1_isName
set_option maxRecDepth 100000 in
theorem ggX1_readLine_X1_readShape : GoodIn wsX1_readLine wsX1_readShape := goodIn_r _ [63, 64, 1, 65, 66, 67, 68, 69, 5, 70, 71, 72, 73, 74, 75, 76, 77, 78, 79, 80, 8, 9, 81, 10, 7, 82, 83, 84, 85, 86, 87, 88, 89, 90, 91, 192, 193, 194, 195, 196, 197, 198, 199, 200, 201, 202, 203, 204, 207, 208, 209, 210, 211, 212, 213, 214, 215, 216, 217, 218, 219, 220, 221, 222, 223, 224, 205, 206] rfl (by decide +kernel)
set_option maxRecDepth 100000 in
theorem gX1_readLine_X1_readShape : GoodIn wsX1_readLine (wsV RX1 87 RX1 yX1_readShape wsX1_readShape) := goodIn_app (goodIn_r _ [60, 61, 62, 5] rfl (by decide +kernel)) ggX1_readLine_X1_readShape
set_option maxRecDepth 100000 in
theorem ggX1_readLine_X1_readDeed : GoodIn wsX1_readLine wsX1_readDeed := goodIn_r _ [95, 96, 1, 67, 68, 69, 5, 70, 71, 72, 73, 74, 75, 76, 77, 78, 79, 80, 8, 9, 81, 10, 7, 82, 83, 84, 85, 86, 87, 88, 89, 90, 91, 97, 98, 99, 100, 101, 102, 103, 207, 208, 209, 210, 211, 212, 213, 214, 215, 216, 217, 218, 219, 220, 221, 222, 223, 224, 192, 193, 194, 195, 196, 197, 198, 199, 200, 201, 202, 203, 204, 205, 206] rfl (by decide +kernel)
set_option maxRecDepth 100000 in
theorem gX1_readLine_X1_readDeed : GoodIn wsX1_readLine (wsV RX1 95 RX1 yX1_readDeed wsX1_readDeed) := goodIn_app (goodIn_r _ [92, 93, 94, 5] rfl (by decide +kernel)) ggX1_readLine_X1_readDeed
set_option maxRecDepth 100000 in
theorem ggX1_readLine_X1_readHouse : GoodIn wsX1_readLine wsX1_readHouse := goodIn_r _ [107, 108, 109, 71, 7, 110, 111, 112, 113, 5, 114, 115, 116, 117, 118, 119, 77, 78, 79, 80, 8, 9, 81, 10, 1, 82, 83, 84, 67, 68, 69, 70, 72, 85, 86, 87, 88, 89, 90, 91, 120, 121, 122, 123, 124, 125, 126, 127, 73, 74, 75, 76, 128, 129, 130, 131, 132, 192, 193, 194, 195, 196, 197, 198, 199, 200, 201, 202, 203, 204, 207, 208, 209, 210, 211, 212, 213, 214, 215, 216, 217, 218, 219, 220, 221, 222, 223, 224, 205, 206] rfl (by decide +kernel)
set_option maxRecDepth 100000 in
theorem gX1_readLine_X1_readHouse : GoodIn wsX1_readLine (wsV RX1 100 RX1 yX1_readHouse wsX1_readHouse) := goodIn_app (goodIn_r _ [104, 105, 106, 5] rfl (by decide +kernel)) ggX1_readLine_X1_readHouse
set_option maxRecDepth 100000 in
theorem ggX1_readLine_X1_readLawyer : GoodIn wsX1_readLine wsX1_readLawyer := goodIn_r _ [136, 137, 138, 111, 112, 113, 5, 114, 115, 116, 117, 118, 119, 77, 78, 79, 80, 71, 8, 9, 81, 10, 1, 7, 82, 83, 84, 67, 68, 69, 70, 72, 85, 86, 87, 88, 89, 90, 91, 120, 121, 122, 123, 124, 125, 126, 127, 192, 193, 194, 195, 196, 197, 198, 199, 200, 201, 202, 203, 204, 207, 208, 209, 210, 211, 212, 213, 214, 215, 216, 217, 218, 219, 220, 221, 222, 223, 224, 205, 206] rfl (by decide +kernel)
set_option maxRecDepth 100000 in
theorem gX1_readLine_X1_readLawyer : GoodIn wsX1_readLine (wsV RX1 105 RX1 yX1_readLawyer wsX1_readLawyer) := goodIn_app (goodIn_r _ [133, 134, 135, 5] rfl (by decide +kernel)) ggX1_readLine_X1_readLawyer
set_option maxRecDepth 100000 in
theorem ggX1_readLine_X1_readHabit : GoodIn wsX1_readLine wsX1_readHabit := goodIn_r _ [142, 143, 111, 112, 113, 5, 114, 115, 116, 117, 118, 119, 77, 78, 79, 80, 71, 8, 9, 81, 10, 1, 7, 82, 83, 84, 67, 68, 69, 70, 72, 85, 86, 87, 88, 89, 90, 91, 120, 121, 122, 123, 124, 125, 126, 127, 144, 145, 146, 147, 2, 3, 4, 6, 11, 12, 13, 14, 15, 16, 17, 18, 19, 20, 21, 22, 23, 24, 25, 26, 27, 28, 29, 30, 31, 32, 33, 34, 35, 36, 37, 38, 39, 40, 41, 42, 43, 44, 45, 46, 47, 48, 49, 50, 51, 52, 53, 54, 55, 56, 57, 58, 59, 148, 149, 150, 151, 128, 129, 130, 131, 132, 73, 74, 75, 76, 152, 153, 154, 100, 155, 156, 157, 158, 192, 193, 194, 195, 196, 197, 198, 199, 200, 201, 202, 203, 204, 205, 206, 207, 208, 209, 210, 211, 212, 213, 214, 215, 216, 217, 218, 219, 220, 221, 222, 223, 224] rfl (by decide +kernel)
set_option maxRecDepth 100000 in
theorem gX1_readLine_X1_readHabit : GoodIn wsX1_readLine (wsV RX1 110 RX1 yX1_readHabit wsX1_readHabit) := goodIn_app (goodIn_r _ [139, 140, 141, 5] rfl (by decide +kernel)) ggX1_readLine_X1_readHabit
set_option maxRecDepth 100000 in
theorem ggX1_readLine_X1_readVow : GoodIn wsX1_readLine wsX1_readVow := goodIn_r _ [162, 163, 164, 1, 67, 68, 69, 5, 70, 71, 72, 111, 112, 113, 114, 115, 116, 117, 118, 119, 77, 78, 79, 80, 8, 9, 81, 10, 7, 82, 83, 84, 85, 86, 87, 88, 89, 90, 91, 144, 145, 146, 147, 2, 3, 4, 6, 11, 12, 13, 14, 15, 16, 17, 18, 19, 20, 21, 22, 23, 24, 25, 26, 27, 28, 29, 30, 31, 32, 33, 34, 35, 36, 37, 38, 39, 40, 41, 42, 43, 44, 45, 46, 47, 48, 49, 50, 51, 52, 53, 54, 55, 56, 57, 58, 59, 73, 74, 75, 76, 165, 166, 167, 148, 149, 150, 151, 128, 129, 130, 131, 132, 168, 169, 170, 171, 172, 173, 174, 175, 176, 177, 207, 208, 209, 210, 211, 212, 213, 214, 215, 216, 217, 218, 219, 220, 221, 222, 223, 224, 225, 226, 227, 228, 229, 192, 193, 194, 195, 196, 197, 198, 199, 200, 201, 202, 203, 204, 205, 206] rfl (by decide +kernel)
set_option maxRecDepth 100000 in
theorem gX1_readLine_X1_readVow : GoodIn wsX1_readLine (wsV RX1 115 RX1 yX1_readVow wsX1_readVow) := goodIn_app (goodIn_r _ [159, 160, 161, 5] rfl (by decide +kernel)) ggX1_readLine_X1_readVow
set_option maxRecDepth 100000 in
theorem ggX1_readLine_X1_readWant : GoodIn wsX1_readLine wsX1_readWant := goodIn_r _ [181, 182, 183, 1, 67, 68, 69, 5, 70, 71, 72, 111, 112, 113, 114, 115, 116, 117, 118, 119, 77, 78, 79, 80, 8, 9, 81, 10, 7, 82, 83, 84, 85, 86, 87, 88, 89, 90, 91, 148, 149, 150, 151, 128, 129, 130, 131, 132, 184, 185, 186, 187, 188, 189, 190, 191, 207, 208, 209, 210, 211, 212, 213, 214, 215, 216, 217, 218, 219, 220, 221, 222, 223, 224, 230, 231, 232, 192, 193, 194, 195, 196, 197, 198, 199, 200, 201, 202, 203, 204, 205, 206] rfl (by decide +kernel)
set_option maxRecDepth 100000 in
theorem gX1_readLine_X1_readWant : GoodIn wsX1_readLine (wsV RX1 120 RX1 yX1_readWant wsX1_readWant) := goodIn_app (goodIn_r _ [178, 179, 180, 5] rfl (by decide +kernel)) ggX1_readLine_X1_readWant
set_option maxRecDepth 100000 in
theorem ggX1_readLine_X1_complain : GoodIn wsX1_readLine wsX1_complain := goodIn_r _ [70, 71, 72, 192, 193, 194, 195, 196, 197, 198, 199, 200, 201, 202, 203, 204] rfl (by decide +kernel)
set_option maxRecDepth 100000 in
theorem gX1_readLine_X1_complain : GoodIn wsX1_readLine (wsV RX1 77 RX1 yX1_complain wsX1_complain) := goodIn_app (goodIn_r _ [67, 68, 69, 5] rfl (by decide +kernel)) ggX1_readLine_X1_complain
set_option maxRecDepth 100000 in
theorem ggX1_readShape_X1_complain : GoodIn wsX1_readShape wsX1_complain := goodIn_r _ [9, 10, 11, 35, 36, 37, 38, 39, 40, 41, 42, 43, 44, 45, 46, 47] rfl (by decide +kernel)
set_option maxRecDepth 100000 in
theorem gX1_readShape_X1_complain : GoodIn wsX1_readShape (wsV RX1 77 RX1 yX1_complain wsX1_complain) := goodIn_app (goodIn_r _ [5, 6, 7, 8] rfl (by decide +kernel)) ggX1_readShape_X1_complain
set_option maxRecDepth 100000 in
theorem ggX1_readShape_X1_needNumber : GoodIn wsX1_readShape wsX1_needNumber := goodIn_r _ [15, 16, 17, 18, 8, 19, 10, 20, 21, 22, 23, 2, 24, 25, 26, 27, 5, 6, 7, 9, 11, 28, 29, 30, 31, 32, 33, 34, 35, 36, 37, 38, 39, 40, 41, 42, 43, 44, 45, 46, 47, 66, 67] rfl (by decide +kernel)
set_option maxRecDepth 100000 in
theorem gX1_readShape_X1_needNumber : GoodIn wsX1_readShape (wsV RX1 126 RX1 yX1_needNumber wsX1_needNumber) := goodIn_app (goodIn_r _ [12, 13, 14, 8] rfl (by decide +kernel)) ggX1_readShape_X1_needNumber
set_option maxRecDepth 100000 in
theorem ggX1_readShape_X1_readToken : GoodIn wsX1_readShape wsX1_readToken := goodIn_r _ [19, 10, 20, 21, 22, 23, 2, 24, 25, 26, 8, 27, 5, 6, 7, 9, 11, 35, 36, 37, 38, 39, 40, 41, 42, 43, 44, 45, 46, 47, 66, 67] rfl (by decide +kernel)
set_option maxRecDepth 100000 in
theorem gX1_readShape_X1_readToken : GoodIn wsX1_readShape (wsV RX1 55 RX1 yX1_readToken wsX1_readToken) := goodIn_app (goodIn_r _ [16, 17, 18, 8] rfl (by decide +kernel)) ggX1_readShape_X1_readToken
set_option maxRecDepth 100000 in
theorem ggX1_readDeed_X1_complain : GoodIn wsX1_readDeed wsX1_complain := goodIn_r _ [7, 8, 9, 58, 59, 60, 61, 62, 63, 64, 65, 66, 67, 68, 69, 70] rfl (by decide +kernel)
set_option maxRecDepth 100000 in
theorem gX1_readDeed_X1_complain : GoodIn wsX1_readDeed (wsV RX1 77 RX1 yX1_complain wsX1_complain) := goodIn_app (goodIn_r _ [3, 4, 5, 6] rfl (by decide +kernel)) ggX1_readDeed_X1_complain
set_option maxRecDepth 100000 in
theorem ggX1_readDeed_X1_needNumber : GoodIn wsX1_readDeed wsX1_needNumber := goodIn_r _ [13, 14, 15, 16, 6, 17, 8, 18, 19, 20, 21, 2, 22, 23, 24, 25, 3, 4, 5, 7, 9, 26, 27, 28, 29, 30, 31, 32, 58, 59, 60, 61, 62, 63, 64, 65, 66, 67, 68, 69, 70, 71, 72] rfl (by decide +kernel)
set_option maxRecDepth 100000 in
theorem gX1_readDeed_X1_needNumber : GoodIn wsX1_readDeed (wsV RX1 126 RX1 yX1_needNumber wsX1_needNumber) := goodIn_app (goodIn_r _ [10, 11, 12, 6] rfl (by decide +kernel)) ggX1_readDeed_X1_needNumber
set_option maxRecDepth 100000 in
theorem ggX1_readDeed_X4_addDeed : GoodIn wsX1_readDeed wsX4_addDeed := goodIn_r _ [37, 38, 39, 40, 41, 42, 43, 44, 45, 46, 47, 48, 49, 50, 51, 52, 53, 54, 55, 56, 57] rfl (by decide +kernel)
set_option maxRecDepth 100000 in
theorem gX1_readDeed_X4_addDeed : GoodIn wsX1_readDeed (wsV RX1 132 RX4 yX4_addDeed wsX4_addDeed) := goodIn_app (goodIn_r _ [33, 34, 35, 36] rfl (by decide +kernel)) ggX1_readDeed_X4_addDeed
set_option maxRecDepth 100000 in
theorem ggX1_readDeed_X1_readToken : GoodIn wsX1_readDeed wsX1_readToken := goodIn_r _ [17, 8, 18, 19, 20, 21, 2, 22, 23, 24, 6, 25, 3, 4, 5, 7, 9, 58, 59, 60, 61, 62, 63, 64, 65, 66, 67, 68, 69, 70, 71, 72] rfl (by decide +kernel)
set_option maxRecDepth 100000 in
theorem gX1_readDeed_X1_readToken : GoodIn wsX1_readDeed (wsV RX1 55 RX1 yX1_readToken wsX1_readToken) := goodIn_app (goodIn_r _ [14, 15, 16, 6] rfl (by decide +kernel)) ggX1_readDeed_X1_readToken
set_option maxRecDepth 100000 in
theorem ggX1_readHouse_X1_needHouse : GoodIn wsX1_readHouse wsX1_needHouse := goodIn_r _ [10, 11, 12, 13, 14, 15, 16, 17, 18, 9, 19, 3, 20, 21, 22, 23, 24, 4, 25, 26, 27, 28, 29, 30, 31, 32, 33, 34, 35, 36, 37, 38, 39, 57, 58, 59, 60, 61, 62, 63, 64, 65, 66, 67, 68, 69, 88, 89] rfl (by decide +kernel)
set_option maxRecDepth 100000 in
theorem gX1_readHouse_X1_needHouse : GoodIn wsX1_readHouse (wsV RX1 136 RX1 yX1_needHouse wsX1_needHouse) := goodIn_app (goodIn_r _ [6, 7, 8, 9] rfl (by decide +kernel)) ggX1_readHouse_X1_needHouse
set_option maxRecDepth 100000 in
theorem ggX1_readHouse_X1_tellOnce : GoodIn wsX1_readHouse wsX1_tellOnce := goodIn_r _ [43, 24, 44, 38, 45, 28, 29, 30, 9, 31, 3, 32, 46, 47, 57, 58, 59, 60, 61, 62, 63, 64, 65, 66, 67, 68, 69] rfl (by decide +kernel)
set_option maxRecDepth 100000 in
theorem gX1_readHouse_X1_tellOnce : GoodIn wsX1_readHouse (wsV RX1 140 RX1 yX1_tellOnce wsX1_tellOnce) := goodIn_app (goodIn_r _ [40, 41, 42, 9] rfl (by decide +kernel)) ggX1_readHouse_X1_tellOnce
set_option maxRecDepth 100000 in
theorem ggX1_readHouse_X1_needNumber : GoodIn wsX1_readHouse wsX1_needNumber := goodIn_r _ [51, 16, 17, 18, 9, 19, 3, 20, 21, 22, 23, 24, 4, 25, 26, 27, 28, 29, 30, 31, 32, 33, 34, 35, 36, 37, 38, 39, 57, 58, 59, 60, 61, 62, 63, 64, 65, 66, 67, 68, 69, 88, 89] rfl (by decide +kernel)
set_option maxRecDepth 100000 in
theorem gX1_readHouse_X1_needNumber : GoodIn wsX1_readHouse (wsV RX1 126 RX1 yX1_needNumber wsX1_needNumber) := goodIn_app (goodIn_r _ [48, 49, 50, 9] rfl (by decide +kernel)) ggX1_readHouse_X1_needNumber
set_option maxRecDepth 100000 in
theorem ggX1_readHouse_X1_readToken : GoodIn wsX1_readHouse wsX1_readToken := goodIn_r _ [19, 3, 20, 21, 22, 23, 24, 4, 25, 26, 9, 27, 28, 29, 30, 31, 32, 57, 58, 59, 60, 61, 62, 63, 64, 65, 66, 67, 68, 69, 88, 89] rfl (by decide +kernel)
set_option maxRecDepth 100000 in
theorem gX1_readHouse_X1_readToken : GoodIn wsX1_readHouse (wsV RX1 55 RX1 yX1_readToken wsX1_readToken) := goodIn_app (goodIn_r _ [16, 17, 18, 9] rfl (by decide +kernel)) ggX1_readHouse_X1_readToken
set_option maxRecDepth 100000 in
theorem ggX1_readHouse_X1_numberHere : GoodIn wsX1_readHouse wsX1_numberHere := goodIn_r _ [36, 4, 24, 20, 21, 23, 3, 28, 29, 30, 9, 31, 32, 37, 38, 39, 57, 58, 59, 60, 61, 62, 63, 64, 65, 66, 67, 68, 69, 88, 89] rfl (by decide +kernel)
set_option maxRecDepth 100000 in
theorem gX1_readHouse_X1_numberHere : GoodIn wsX1_readHouse (wsV RX1 147 RX1 yX1_numberHere wsX1_numberHere) := goodIn_app (goodIn_r _ [33, 34, 35, 9] rfl (by decide +kernel)) ggX1_readHouse_X1_numberHere
set_option maxRecDepth 100000 in
theorem ggX1_readHouse_X1_noteDeed : GoodIn wsX1_readHouse wsX1_noteDeed := goodIn_r _ [55, 56, 12, 13, 14, 15, 57, 58, 59, 60, 61, 62, 63, 64, 65, 66, 67, 68, 69] rfl (by decide +kernel)
set_option maxRecDepth 100000 in
theorem gX1_readHouse_X1_noteDeed : GoodIn wsX1_readHouse (wsV RX1 150 RX1 yX1_noteDeed wsX1_noteDeed) := goodIn_app (goodIn_r _ [52, 53, 54, 9] rfl (by decide +kernel)) ggX1_readHouse_X1_noteDeed
set_option maxRecDepth 100000 in
theorem ggX1_readLawyer_X1_needHouse : GoodIn wsX1_readLawyer wsX1_needHouse := goodIn_r _ [7, 8, 9, 10, 11, 12, 13, 14, 15, 6, 16, 17, 18, 19, 20, 21, 22, 23, 24, 25, 26, 27, 28, 29, 30, 31, 32, 33, 34, 35, 36, 37, 38, 47, 48, 49, 50, 51, 52, 53, 54, 55, 56, 57, 58, 59, 78, 79] rfl (by decide +kernel)
set_option maxRecDepth 100000 in
theorem gX1_readLawyer_X1_needHouse : GoodIn wsX1_readLawyer (wsV RX1 136 RX1 yX1_needHouse wsX1_needHouse) := goodIn_app (goodIn_r _ [3, 4, 5, 6] rfl (by decide +kernel)) ggX1_readLawyer_X1_needHouse
set_option maxRecDepth 100000 in
theorem ggX1_readLawyer_X1_tellOnce : GoodIn wsX1_readLawyer wsX1_tellOnce := goodIn_r _ [42, 22, 43, 37, 44, 27, 28, 29, 6, 30, 17, 31, 45, 46, 47, 48, 49, 50, 51, 52, 53, 54, 55, 56, 57, 58, 59] rfl (by decide +kernel)
set_option maxRecDepth 100000 in
theorem gX1_readLawyer_X1_tellOnce : GoodIn wsX1_readLawyer (wsV RX1 140 RX1 yX1_tellOnce wsX1_tellOnce) := goodIn_app (goodIn_r _ [39, 40, 41, 6] rfl (by decide +kernel)) ggX1_readLawyer_X1_tellOnce
set_option maxRecDepth 100000 in
theorem ggX1_readLawyer_X1_readToken : GoodIn wsX1_readLawyer wsX1_readToken := goodIn_r _ [16, 17, 18, 19, 20, 21, 22, 23, 24, 25, 6, 26, 27, 28, 29, 30, 31, 47, 48, 49, 50, 51, 52, 53, 54, 55, 56, 57, 58, 59, 78, 79] rfl (by decide +kernel)
set_option maxRecDepth 100000 in
theorem gX1_readLawyer_X1_readToken : GoodIn wsX1_readLawyer (wsV RX1 55 RX1 yX1_readToken wsX1_readToken) := goodIn_app (goodIn_r _ [13, 14, 15, 6] rfl (by decide +kernel)) ggX1_readLawyer_X1_readToken
set_option maxRecDepth 100000 in
theorem ggX1_readHabit_X1_needHouse : GoodIn wsX1_readHabit wsX1_needHouse := goodIn_r _ [6, 7, 8, 9, 10, 11, 12, 13, 14, 5, 15, 16, 17, 18, 19, 20, 21, 22, 23, 24, 25, 26, 27, 28, 29, 30, 31, 32, 33, 34, 35, 36, 37, 124, 125, 126, 127, 128, 129, 130, 131, 132, 133, 134, 135, 136, 137, 138] rfl (by decide +kernel)
set_option maxRecDepth 100000 in
theorem gX1_readHabit_X1_needHouse : GoodIn wsX1_readHabit (wsV RX1 136 RX1 yX1_needHouse wsX1_needHouse) := goodIn_app (goodIn_r _ [2, 3, 4, 5] rfl (by decide +kernel)) ggX1_readHabit_X1_needHouse
set_option maxRecDepth 100000 in
theorem ggX1_readHabit_X1_tellOnce : GoodIn wsX1_readHabit wsX1_tellOnce := goodIn_r _ [41, 21, 42, 36, 43, 26, 27, 28, 5, 29, 16, 30, 44, 45, 124, 125, 126, 127, 128, 129, 130, 131, 132, 133, 134, 135, 136] rfl (by decide +kernel)
set_option maxRecDepth 100000 in
theorem gX1_readHabit_X1_tellOnce : GoodIn wsX1_readHabit (wsV RX1 140 RX1 yX1_tellOnce wsX1_tellOnce) := goodIn_app (goodIn_r _ [38, 39, 40, 5] rfl (by decide +kernel)) ggX1_readHabit_X1_tellOnce
set_option maxRecDepth 100000 in
theorem ggX1_readHabit_X1_needKind : GoodIn wsX1_readHabit wsX1_needKind := goodIn_r _ [49, 21, 12, 13, 14, 5, 15, 16, 17, 18, 19, 20, 22, 23, 24, 25, 26, 27, 28, 29, 30, 50, 51, 52, 53, 54, 55, 56, 57, 58, 59, 60, 61, 62, 63, 64, 65, 66, 67, 68, 69, 70, 71, 72, 73, 74, 75, 76, 77, 78, 79, 80, 81, 82, 83, 84, 85, 86, 87, 88, 89, 90, 91, 92, 93, 94, 95, 96, 97, 98, 99, 100, 101, 102, 124, 125, 126, 127, 128, 129, 130, 131, 132, 133, 134, 135, 136, 137, 138] rfl (by decide +kernel)
set_option maxRecDepth 100000 in
theorem gX1_readHabit_X1_needKind : GoodIn wsX1_readHabit (wsV RX1 160 RX1 yX1_needKind wsX1_needKind) := goodIn_app (goodIn_r _ [46, 47, 48, 5] rfl (by decide +kernel)) ggX1_readHabit_X1_needKind
set_option maxRecDepth 100000 in
theorem ggX1_readHabit_X1_needDeed : GoodIn wsX1_readHabit wsX1_needDeed := goodIn_r _ [106, 12, 13, 14, 5, 15, 16, 17, 18, 19, 20, 21, 22, 23, 24, 25, 26, 27, 28, 29, 30, 31, 32, 33, 34, 35, 36, 37, 107, 108, 109, 110, 111, 8, 9, 10, 11, 124, 125, 126, 127, 128, 129, 130, 131, 132, 133, 134, 135, 136, 137, 138] rfl (by decide +kernel)
set_option maxRecDepth 100000 in
theorem gX1_readHabit_X1_needDeed : GoodIn wsX1_readHabit (wsV RX1 163 RX1 yX1_needDeed wsX1_needDeed) := goodIn_app (goodIn_r _ [103, 104, 105, 5] rfl (by decide +kernel)) ggX1_readHabit_X1_needDeed
set_option maxRecDepth 100000 in
theorem ggX1_readHabit_X1_needNumber : GoodIn wsX1_readHabit wsX1_needNumber := goodIn_r _ [115, 12, 13, 14, 5, 15, 16, 17, 18, 19, 20, 21, 22, 23, 24, 25, 26, 27, 28, 29, 30, 31, 32, 33, 34, 35, 36, 37, 124, 125, 126, 127, 128, 129, 130, 131, 132, 133, 134, 135, 136, 137, 138] rfl (by decide +kernel)
set_option maxRecDepth 100000 in
theorem gX1_readHabit_X1_needNumber : GoodIn wsX1_readHabit (wsV RX1 126 RX1 yX1_needNumber wsX1_needNumber) := goodIn_app (goodIn_r _ [112, 113, 114, 5] rfl (by decide +kernel)) ggX1_readHabit_X1_needNumber
set_option maxRecDepth 100000 in
theorem ggX1_readHabit_X4_setHabit : GoodIn wsX1_readHabit wsX4_setHabit := goodIn_r _ [120, 121, 122, 123, 139, 140, 141, 142, 143, 144, 145, 146, 147, 148, 149, 150, 151, 152, 153, 154, 155, 156] rfl (by decide +kernel)
set_option maxRecDepth 100000 in
theorem gX1_readHabit_X4_setHabit : GoodIn wsX1_readHabit (wsV RX1 166 RX4 yX4_setHabit wsX4_setHabit) := goodIn_app (goodIn_r _ [116, 117, 118, 119] rfl (by decide +kernel)) ggX1_readHabit_X4_setHabit
set_option maxRecDepth 100000 in
theorem ggX1_readHabit_X1_readToken : GoodIn wsX1_readHabit wsX1_readToken := goodIn_r _ [15, 16, 17, 18, 19, 20, 21, 22, 23, 24, 5, 25, 26, 27, 28, 29, 30, 124, 125, 126, 127, 128, 129, 130, 131, 132, 133, 134, 135, 136, 137, 138] rfl (by decide +kernel)
set_option maxRecDepth 100000 in
theorem gX1_readHabit_X1_readToken : GoodIn wsX1_readHabit (wsV RX1 55 RX1 yX1_readToken wsX1_readToken) := goodIn_app (goodIn_r _ [12, 13, 14, 5] rfl (by decide +kernel)) ggX1_readHabit_X1_readToken
set_option maxRecDepth 100000 in
theorem ggX1_readVow_X1_complain : GoodIn wsX1_readVow wsX1_complain := goodIn_r _ [8, 9, 10, 145, 146, 147, 148, 149, 150, 151, 152, 153, 154, 155, 156, 157] rfl (by decide +kernel)
set_option maxRecDepth 100000 in
theorem gX1_readVow_X1_complain : GoodIn wsX1_readVow (wsV RX1 77 RX1 yX1_complain wsX1_complain) := goodIn_app (goodIn_r _ [4, 5, 6, 7] rfl (by decide +kernel)) ggX1_readVow_X1_complain
set_option maxRecDepth 100000 in
theorem ggX1_readVow_X1_needHouse : GoodIn wsX1_readVow wsX1_needHouse := goodIn_r _ [14, 15, 16, 17, 18, 19, 20, 21, 22, 7, 23, 9, 24, 25, 26, 27, 3, 28, 29, 30, 31, 4, 5, 6, 8, 10, 32, 33, 34, 35, 36, 37, 38, 145, 146, 147, 148, 149, 150, 151, 152, 153, 154, 155, 156, 157, 158, 159] rfl (by decide +kernel)
set_option maxRecDepth 100000 in
theorem gX1_readVow_X1_needHouse : GoodIn wsX1_readVow (wsV RX1 136 RX1 yX1_needHouse wsX1_needHouse) := goodIn_app (goodIn_r _ [11, 12, 13, 7] rfl (by decide +kernel)) ggX1_readVow_X1_needHouse
set_option maxRecDepth 100000 in
theorem ggX1_readVow_X1_needKind : GoodIn wsX1_readVow wsX1_needKind := goodIn_r _ [42, 3, 20, 21, 22, 7, 23, 9, 24, 25, 26, 27, 28, 29, 30, 31, 4, 5, 6, 8, 10, 43, 44, 45, 46, 47, 48, 49, 50, 51, 52, 53, 54, 55, 56, 57, 58, 59, 60, 61, 62, 63, 64, 65, 66, 67, 68, 69, 70, 71, 72, 73, 74, 75, 76, 77, 78, 79, 80, 81, 82, 83, 84, 85, 86, 87, 88, 89, 90, 91, 92, 93, 94, 95, 145, 146, 147, 148, 149, 150, 151, 152, 153, 154, 155, 156, 157, 158, 159] rfl (by decide +kernel)
set_option maxRecDepth 100000 in
theorem gX1_readVow_X1_needKind : GoodIn wsX1_readVow (wsV RX1 160 RX1 yX1_needKind wsX1_needKind) := goodIn_app (goodIn_r _ [39, 40, 41, 7] rfl (by decide +kernel)) ggX1_readVow_X1_needKind
set_option maxRecDepth 100000 in
theorem ggX1_readVow_X1_needNumber : GoodIn wsX1_readVow wsX1_needNumber := goodIn_r _ [99, 20, 21, 22, 7, 23, 9, 24, 25, 26, 27, 3, 28, 29, 30, 31, 4, 5, 6, 8, 10, 32, 33, 34, 35, 36, 37, 38, 145, 146, 147, 148, 149, 150, 151, 152, 153, 154, 155, 156, 157, 158, 159] rfl (by decide +kernel)
set_option maxRecDepth 100000 in
theorem gX1_readVow_X1_needNumber : GoodIn wsX1_readVow (wsV RX1 126 RX1 yX1_needNumber wsX1_needNumber) := goodIn_app (goodIn_r _ [96, 97, 98, 7] rfl (by decide +kernel)) ggX1_readVow_X1_needNumber
set_option maxRecDepth 100000 in
theorem ggX1_readVow_X7_isDepth : GoodIn wsX1_readVow wsX7_isDepth := goodIn_r _ [101, 102, 36, 37, 38] rfl (by decide +kernel)
set_option maxRecDepth 100000 in
theorem gX1_readVow_X7_isDepth_n177 : GoodIn wsX1_readVow (wsX7_isDepth) := ggX1_readVow_X7_isDepth
set_option maxRecDepth 100000 in
theorem ggX1_readVow_X1_needDeed : GoodIn wsX1_readVow wsX1_needDeed := goodIn_r _ [106, 20, 21, 22, 7, 23, 9, 24, 25, 26, 27, 3, 28, 29, 30, 31, 4, 5, 6, 8, 10, 32, 33, 34, 35, 36, 37, 38, 107, 108, 109, 110, 111, 16, 17, 18, 19, 145, 146, 147, 148, 149, 150, 151, 152, 153, 154, 155, 156, 157, 158, 159] rfl (by decide +kernel)
set_option maxRecDepth 100000 in
theorem gX1_readVow_X1_needDeed : GoodIn wsX1_readVow (wsV RX1 163 RX1 yX1_needDeed wsX1_needDeed) := goodIn_app (goodIn_r _ [103, 104, 105, 7] rfl (by decide +kernel)) ggX1_readVow_X1_needDeed
set_option maxRecDepth 100000 in
theorem ggX1_readVow_X5_append : GoodIn wsX1_readVow wsX5_append := goodIn_r _ [116, 117, 118, 119, 120, 121, 140, 141, 142, 143, 144] rfl (by decide +kernel)
set_option maxRecDepth 100000 in
theorem gX1_readVow_X5_append : GoodIn wsX1_readVow (wsV RX1 181 RX5 yX5_append wsX5_append) := goodIn_app (goodIn_r _ [112, 113, 114, 115] rfl (by decide +kernel)) ggX1_readVow_X5_append
set_option maxRecDepth 100000 in
theorem ggX1_readVow_X1_readToken : GoodIn wsX1_readVow wsX1_readToken := goodIn_r _ [23, 9, 24, 25, 26, 27, 3, 28, 29, 30, 7, 31, 4, 5, 6, 8, 10, 145, 146, 147, 148, 149, 150, 151, 152, 153, 154, 155, 156, 157, 158, 159] rfl (by decide +kernel)
set_option maxRecDepth 100000 in
theorem gX1_readVow_X1_readToken : GoodIn wsX1_readVow (wsV RX1 55 RX1 yX1_readToken wsX1_readToken) := goodIn_app (goodIn_r _ [20, 21, 22, 7] rfl (by decide +kernel)) ggX1_readVow_X1_readToken
set_option maxRecDepth 100000 in
theorem ggX1_readWant_X1_complain : GoodIn wsX1_readWant wsX1_complain := goodIn_r _ [8, 9, 10, 77, 78, 79, 80, 81, 82, 83, 84, 85, 86, 87, 88, 89] rfl (by decide +kernel)
set_option maxRecDepth 100000 in
theorem gX1_readWant_X1_complain : GoodIn wsX1_readWant (wsV RX1 77 RX1 yX1_complain wsX1_complain) := goodIn_app (goodIn_r _ [4, 5, 6, 7] rfl (by decide +kernel)) ggX1_readWant_X1_complain
set_option maxRecDepth 100000 in
theorem ggX1_readWant_X1_needHouse : GoodIn wsX1_readWant wsX1_needHouse := goodIn_r _ [14, 15, 16, 17, 18, 19, 20, 21, 22, 7, 23, 9, 24, 25, 26, 27, 3, 28, 29, 30, 31, 4, 5, 6, 8, 10, 32, 33, 34, 35, 36, 37, 38, 77, 78, 79, 80, 81, 82, 83, 84, 85, 86, 87, 88, 89, 90, 91] rfl (by decide +kernel)
set_option maxRecDepth 100000 in
theorem gX1_readWant_X1_needHouse : GoodIn wsX1_readWant (wsV RX1 136 RX1 yX1_needHouse wsX1_needHouse) := goodIn_app (goodIn_r _ [11, 12, 13, 7] rfl (by decide +kernel)) ggX1_readWant_X1_needHouse
set_option maxRecDepth 100000 in
theorem ggX1_readWant_X1_needDeed : GoodIn wsX1_readWant wsX1_needDeed := goodIn_r _ [42, 20, 21, 22, 7, 23, 9, 24, 25, 26, 27, 3, 28, 29, 30, 31, 4, 5, 6, 8, 10, 32, 33, 34, 35, 36, 37, 38, 43, 44, 45, 46, 47, 16, 17, 18, 19, 77, 78, 79, 80, 81, 82, 83, 84, 85, 86, 87, 88, 89, 90, 91] rfl (by decide +kernel)
set_option maxRecDepth 100000 in
theorem gX1_readWant_X1_needDeed : GoodIn wsX1_readWant (wsV RX1 163 RX1 yX1_needDeed wsX1_needDeed) := goodIn_app (goodIn_r _ [39, 40, 41, 7] rfl (by decide +kernel)) ggX1_readWant_X1_needDeed
set_option maxRecDepth 100000 in
theorem ggX1_readWant_X6_append : GoodIn wsX1_readWant wsX6_append := goodIn_r _ [52, 53, 54, 55, 74, 75, 76] rfl (by decide +kernel)
set_option maxRecDepth 100000 in
theorem gX1_readWant_X6_append : GoodIn wsX1_readWant (wsV RX1 192 RX6 yX6_append wsX6_append) := goodIn_app (goodIn_r _ [48, 49, 50, 51] rfl (by decide +kernel)) ggX1_readWant_X6_append
set_option maxRecDepth 100000 in
theorem ggX1_readWant_X1_readToken : GoodIn wsX1_readWant wsX1_readToken := goodIn_r _ [23, 9, 24, 25, 26, 27, 3, 28, 29, 30, 7, 31, 4, 5, 6, 8, 10, 77, 78, 79, 80, 81, 82, 83, 84, 85, 86, 87, 88, 89, 90, 91] rfl (by decide +kernel)
set_option maxRecDepth 100000 in
theorem gX1_readWant_X1_readToken : GoodIn wsX1_readWant (wsV RX1 55 RX1 yX1_readToken wsX1_readToken) := goodIn_app (goodIn_r _ [20, 21, 22, 7] rfl (by decide +kernel)) ggX1_readWant_X1_readToken
set_option maxRecDepth 100000 in
theorem ggX1_needStroke_X1_complain : GoodIn wsX1_needStroke wsX1_complain := goodIn_r _ [7, 8, 9, 10, 11, 12, 13, 14, 15, 16, 17, 18, 19, 20, 21, 22] rfl (by decide +kernel)
set_option maxRecDepth 100000 in
theorem gX1_needStroke_X1_complain : GoodIn wsX1_needStroke (wsV RX1 77 RX1 yX1_complain wsX1_complain) := goodIn_app (goodIn_r _ [3, 4, 5, 6] rfl (by decide +kernel)) ggX1_needStroke_X1_complain
set_option maxRecDepth 100000 in
theorem ggX1_tellOnce_X7_bit : GoodIn wsX1_tellOnce wsX7_bit := goodIn_r _ [4] rfl (by decide +kernel)
set_option maxRecDepth 100000 in
theorem gX1_tellOnce_X7_bit_n195 : GoodIn wsX1_tellOnce (wsX7_bit) := ggX1_tellOnce_X7_bit
set_option maxRecDepth 100000 in
theorem ggX1_tellOnce_X1_complain : GoodIn wsX1_tellOnce wsX1_complain := goodIn_r _ [9, 10, 11, 14, 15, 16, 17, 18, 19, 20, 21, 22, 23, 24, 25, 26] rfl (by decide +kernel)
set_option maxRecDepth 100000 in
theorem gX1_tellOnce_X1_complain : GoodIn wsX1_tellOnce (wsV RX1 77 RX1 yX1_complain wsX1_complain) := goodIn_app (goodIn_r _ [5, 6, 7, 8] rfl (by decide +kernel)) ggX1_tellOnce_X1_complain
set_option maxRecDepth 100000 in
theorem ggX1_tellOnce_X7_withBit : GoodIn wsX1_tellOnce wsX7_withBit := goodIn_r _ [13] rfl (by decide +kernel)
set_option maxRecDepth 100000 in
theorem gX1_tellOnce_X7_withBit_n198 : GoodIn wsX1_tellOnce (wsX7_withBit) := ggX1_tellOnce_X7_withBit
set_option maxRecDepth 100000 in
theorem ggX1_needHouse_X1_readToken : GoodIn wsX1_needHouse wsX1_readToken := goodIn_r _ [10, 11, 12, 13, 14, 15, 16, 17, 18, 19, 9, 20, 21, 22, 23, 24, 25, 33, 34, 35, 36, 37, 38, 39, 40, 41, 42, 43, 44, 45, 46, 47] rfl (by decide +kernel)
set_option maxRecDepth 100000 in
theorem gX1_needHouse_X1_readToken : GoodIn wsX1_needHouse (wsV RX1 55 RX1 yX1_readToken wsX1_readToken) := goodIn_app (goodIn_r _ [6, 7, 8, 9] rfl (by decide +kernel)) ggX1_needHouse_X1_readToken
set_option maxRecDepth 100000 in
theorem ggX1_needHouse_X1_numberHere : GoodIn wsX1_needHouse wsX1_numberHere := goodIn_r _ [29, 17, 16, 12, 13, 15, 11, 21, 22, 23, 9, 24, 25, 30, 31, 32, 33, 34, 35, 36, 37, 38, 39, 40, 41, 42, 43, 44, 45, 46, 47] rfl (by decide +kernel)
set_option maxRecDepth 100000 in
theorem gX1_needHouse_X1_numberHere : GoodIn wsX1_needHouse (wsV RX1 147 RX1 yX1_numberHere wsX1_numberHere) := goodIn_app (goodIn_r _ [26, 27, 28, 9] rfl (by decide +kernel)) ggX1_needHouse_X1_numberHere
set_option maxRecDepth 100000 in
theorem ggX1_needDeed_X1_readToken : GoodIn wsX1_needDeed wsX1_readToken := goodIn_r _ [5, 6, 7, 8, 9, 10, 11, 12, 13, 14, 4, 15, 16, 17, 18, 19, 20, 37, 38, 39, 40, 41, 42, 43, 44, 45, 46, 47, 48, 49, 50, 51] rfl (by decide +kernel)
set_option maxRecDepth 100000 in
theorem gX1_needDeed_X1_readToken : GoodIn wsX1_needDeed (wsV RX1 55 RX1 yX1_readToken wsX1_readToken) := goodIn_app (goodIn_r _ [1, 2, 3, 4] rfl (by decide +kernel)) ggX1_needDeed_X1_readToken
set_option maxRecDepth 100000 in
theorem ggX1_needDeed_X1_numberHere : GoodIn wsX1_needDeed wsX1_numberHere := goodIn_r _ [24, 12, 11, 7, 8, 10, 6, 16, 17, 18, 4, 19, 20, 25, 26, 27, 37, 38, 39, 40, 41, 42, 43, 44, 45, 46, 47, 48, 49, 50, 51] rfl (by decide +kernel)
set_option maxRecDepth 100000 in
theorem gX1_needDeed_X1_numberHere : GoodIn wsX1_needDeed (wsV RX1 147 RX1 yX1_numberHere wsX1_numberHere) := goodIn_app (goodIn_r _ [21, 22, 23, 4] rfl (by decide +kernel)) ggX1_needDeed_X1_numberHere
set_option maxRecDepth 100000 in
theorem ggX1_needDeed_X1_noteDeed : GoodIn wsX1_needDeed wsX1_noteDeed := goodIn_r _ [31, 32, 33, 34, 35, 36, 37, 38, 39, 40, 41, 42, 43, 44, 45, 46, 47, 48, 49] rfl (by decide +kernel)
set_option maxRecDepth 100000 in
theorem gX1_needDeed_X1_noteDeed : GoodIn wsX1_needDeed (wsV RX1 150 RX1 yX1_noteDeed wsX1_noteDeed) := goodIn_app (goodIn_r _ [28, 29, 30, 4] rfl (by decide +kernel)) ggX1_needDeed_X1_noteDeed
set_option maxRecDepth 100000 in
theorem ggX1_needNumber_X1_readToken : GoodIn wsX1_needNumber wsX1_readToken := goodIn_r _ [5, 6, 7, 8, 9, 10, 11, 12, 13, 14, 4, 15, 16, 17, 18, 19, 20, 28, 29, 30, 31, 32, 33, 34, 35, 36, 37, 38, 39, 40, 41, 42] rfl (by decide +kernel)
set_option maxRecDepth 100000 in
theorem gX1_needNumber_X1_readToken : GoodIn wsX1_needNumber (wsV RX1 55 RX1 yX1_readToken wsX1_readToken) := goodIn_app (goodIn_r _ [1, 2, 3, 4] rfl (by decide +kernel)) ggX1_needNumber_X1_readToken
set_option maxRecDepth 100000 in
theorem ggX1_needNumber_X1_numberHere : GoodIn wsX1_needNumber wsX1_numberHere := goodIn_r _ [24, 12, 11, 7, 8, 10, 6, 16, 17, 18, 4, 19, 20, 25, 26, 27, 28, 29, 30, 31, 32, 33, 34, 35, 36, 37, 38, 39, 40, 41, 42] rfl (by decide +kernel)
set_option maxRecDepth 100000 in
theorem gX1_needNumber_X1_numberHere : GoodIn wsX1_needNumber (wsV RX1 147 RX1 yX1_numberHere wsX1_numberHere) := goodIn_app (goodIn_r _ [21, 22, 23, 4] rfl (by decide +kernel)) ggX1_needNumber_X1_numberHere
set_option maxRecDepth 100000 in
theorem ggX1_numberHere_X1_complain : GoodIn wsX1_numberHere wsX1_complain := goodIn_r _ [11, 6, 12, 16, 17, 18, 19, 20, 21, 22, 23, 24, 25, 26, 27, 28] rfl (by decide +kernel)
set_option maxRecDepth 100000 in
theorem gX1_numberHere_X1_complain : GoodIn wsX1_numberHere (wsV RX1 77 RX1 yX1_complain wsX1_complain) := goodIn_app (goodIn_r _ [7, 8, 9, 10] rfl (by decide +kernel)) ggX1_numberHere_X1_complain
set_option maxRecDepth 100000 in
theorem ggX1_numberHere_X7_within : GoodIn wsX1_numberHere wsX7_within := goodIn_r _ [15] rfl (by decide +kernel)
set_option maxRecDepth 100000 in
theorem gX1_numberHere_X7_within_n210 : GoodIn wsX1_numberHere (wsX7_within) := ggX1_numberHere_X7_within
set_option maxRecDepth 100000 in
theorem ggX1_needKind_X1_readToken : GoodIn wsX1_needKind wsX1_readToken := goodIn_r _ [6, 7, 8, 9, 10, 11, 1, 12, 13, 14, 5, 15, 16, 17, 18, 19, 20, 74, 75, 76, 77, 78, 79, 80, 81, 82, 83, 84, 85, 86, 87, 88] rfl (by decide +kernel)
set_option maxRecDepth 100000 in
theorem gX1_needKind_X1_readToken : GoodIn wsX1_needKind (wsV RX1 55 RX1 yX1_readToken wsX1_readToken) := goodIn_app (goodIn_r _ [2, 3, 4, 5] rfl (by decide +kernel)) ggX1_needKind_X1_readToken
set_option maxRecDepth 100000 in
theorem ggX1_needKind_X1_isName : GoodIn wsX1_needKind wsX1_isName := goodIn_r _ [24, 12, 8, 1, 9, 11, 25, 26, 27, 28, 29, 30, 31, 32, 33, 34, 35, 36, 37, 38, 39, 40, 41, 42, 43, 44, 45, 46, 47, 48, 49, 50, 51, 52, 53, 54, 55, 56, 57, 58, 59, 60, 61, 62, 63, 64, 65, 66, 67, 68, 69, 70, 71, 72, 73, 74, 75, 76, 77, 78, 79, 80, 81, 82, 83, 84, 85, 86, 87, 88] rfl (by decide +kernel)
set_option maxRecDepth 100000 in
theorem gX1_needKind_X1_isName : GoodIn wsX1_needKind (wsV RX1 83 RX1 yX1_isName wsX1_isName) := goodIn_app (goodIn_r _ [21, 22, 23, 5] rfl (by decide +kernel)) ggX1_needKind_X1_isName
set_option maxRecDepth 100000 in
theorem ggX1_needKind_X1_complain : GoodIn wsX1_needKind wsX1_complain := goodIn_r _ [19, 7, 20, 74, 75, 76, 77, 78, 79, 80, 81, 82, 83, 84, 85, 86] rfl (by decide +kernel)
set_option maxRecDepth 100000 in
theorem gX1_needKind_X1_complain : GoodIn wsX1_needKind (wsV RX1 77 RX1 yX1_complain wsX1_complain) := goodIn_app (goodIn_r _ [16, 17, 18, 5] rfl (by decide +kernel)) ggX1_needKind_X1_complain
set_option maxRecDepth 100000 in
theorem ggX1_isName_J0_length_8abf5 : GoodIn wsX1_isName wsJ0_length_8abf5 := goodIn_r _ [10, 11, 12, 13, 14, 9, 15, 16, 17] rfl (by decide +kernel)
set_option maxRecDepth 100000 in
theorem gX1_isName_J0_length_8abf5 : GoodIn wsX1_isName (wsV RX1 224 RJ0 yJ0_length_8abf5 wsJ0_length_8abf5) := goodIn_app (goodIn_r _ [6, 7, 8, 9] rfl (by decide +kernel)) ggX1_isName_J0_length_8abf5
set_option maxRecDepth 100000 in
theorem ggX1_isName_J0_charAt_5068e : GoodIn wsX1_isName wsJ0_charAt_5068e := goodIn_r _ [21, 11, 22, 23, 24, 9, 25, 16, 17, 26, 27, 28, 29, 30, 31, 32, 33, 34, 35, 36, 37, 38, 39, 40, 41, 42, 43, 44, 45, 46, 47, 48, 49, 50, 51, 52, 53, 54] rfl (by decide +kernel)
set_option maxRecDepth 100000 in
theorem gX1_isName_J0_charAt_5068e : GoodIn wsX1_isName (wsV RX1 229 RJ0 yJ0_charAt_5068e wsJ0_charAt_5068e) := goodIn_app (goodIn_r _ [18, 19, 20, 9] rfl (by decide +kernel)) ggX1_isName_J0_charAt_5068e
set_option maxRecDepth 100000 in
theorem ggX1_readToken_X1_sortOf : GoodIn wsX1_readToken wsX1_sortOf := goodIn_r _ [11] rfl (by decide +kernel)
set_option maxRecDepth 100000 in
theorem gX1_readToken_X1_sortOf : GoodIn wsX1_readToken (va_wsS RX1 233 yX1_sortOf wsX1_sortOf) := goodIn_app (goodIn_r _ [8, 9, 10] rfl (by decide +kernel)) ggX1_readToken_X1_sortOf
set_option maxRecDepth 100000 in
theorem ggX1_readToken_X1_complain : GoodIn wsX1_readToken wsX1_complain := goodIn_r _ [15, 1, 16, 17, 18, 19, 20, 21, 22, 23, 24, 25, 26, 27, 28, 29] rfl (by decide +kernel)
set_option maxRecDepth 100000 in
theorem gX1_readToken_X1_complain : GoodIn wsX1_readToken (wsV RX1 77 RX1 yX1_complain wsX1_complain) := goodIn_app (goodIn_r _ [12, 13, 14, 10] rfl (by decide +kernel)) ggX1_readToken_X1_complain
set_option maxRecDepth 100000 in
theorem ggX2_faultOfLane_X2_isNothing : GoodIn wsX2_faultOfLane wsX2_isNothing := goodIn_r _ [6, 1, 7, 8, 9] rfl (by decide +kernel)
set_option maxRecDepth 100000 in
theorem gX2_faultOfLane_X2_isNothing : GoodIn wsX2_faultOfLane (wsV RX2 22 RX2 yX2_isNothing wsX2_isNothing) := goodIn_app (goodIn_r _ [2, 3, 4, 5] rfl (by decide +kernel)) ggX2_faultOfLane_X2_isNothing
set_option maxRecDepth 100000 in
theorem ggX2_faultOfCells_X2_isNothing : GoodIn wsX2_faultOfCells wsX2_isNothing := goodIn_r _ [6, 7, 11, 12, 13] rfl (by decide +kernel)
set_option maxRecDepth 100000 in
theorem gX2_faultOfCells_X2_isNothing : GoodIn wsX2_faultOfCells (wsV RX2 22 RX2 yX2_isNothing wsX2_isNothing) := goodIn_app (goodIn_r _ [2, 3, 4, 5] rfl (by decide +kernel)) ggX2_faultOfCells_X2_isNothing
set_option maxRecDepth 100000 in
theorem ggX2_faultOfCells_X7_within : GoodIn wsX2_faultOfCells wsX7_within := goodIn_r _ [10] rfl (by decide +kernel)
set_option maxRecDepth 100000 in
theorem gX2_faultOfCells_X7_within_n26 : GoodIn wsX2_faultOfCells (wsX7_within) := ggX2_faultOfCells_X7_within
set_option maxRecDepth 100000 in
theorem ggX4_init_X5_init : GoodIn wsX4_init wsX5_init := goodIn_r _ [23, 24, 2, 3, 5, 25, 26, 27, 28, 52, 53, 54, 55, 56] rfl (by decide +kernel)
set_option maxRecDepth 100000 in
theorem gX4_init_X5_init_n39 : GoodIn wsX4_init (wsX5_init) := ggX4_init_X5_init
set_option maxRecDepth 100000 in
theorem ggX4_init_X6_init : GoodIn wsX4_init wsX6_init := goodIn_r _ [30, 31, 2, 3, 5, 32, 33, 57, 58, 59] rfl (by decide +kernel)
set_option maxRecDepth 100000 in
theorem gX4_init_X6_init_n49 : GoodIn wsX4_init (wsX6_init) := ggX4_init_X6_init
set_option maxRecDepth 100000 in
theorem ggX4_isHouse_X7_within : GoodIn wsX4_isHouse wsX7_within := goodIn_r _ [4] rfl (by decide +kernel)
set_option maxRecDepth 100000 in
theorem gX4_isHouse_X7_within_n54 : GoodIn wsX4_isHouse (wsX7_within) := ggX4_isHouse_X7_within
set_option maxRecDepth 100000 in
theorem ggX4_isDeed_X7_within : GoodIn wsX4_isDeed wsX7_within := goodIn_r _ [4] rfl (by decide +kernel)
set_option maxRecDepth 100000 in
theorem gX4_isDeed_X7_within_n54 : GoodIn wsX4_isDeed (wsX7_within) := ggX4_isDeed_X7_within
set_option maxRecDepth 100000 in
theorem ggX4_makeNew_X4_setHabit : GoodIn wsX4_makeNew wsX4_setHabit := goodIn_r _ [20, 21, 22, 23, 24, 25, 26, 27, 28, 29, 30, 31, 32, 33, 34, 35, 36, 37, 38, 39, 40, 41] rfl (by decide +kernel)
set_option maxRecDepth 100000 in
theorem gX4_makeNew_X4_setHabit : GoodIn wsX4_makeNew (wsV RX4 68 RX4 yX4_setHabit wsX4_setHabit) := goodIn_app (goodIn_r _ [16, 17, 18, 19] rfl (by decide +kernel)) ggX4_makeNew_X4_setHabit
set_option maxRecDepth 100000 in
theorem ggX4_copyFrom_X5_copyFrom : GoodIn wsX4_copyFrom wsX5_copyFrom := goodIn_r _ [26, 27, 28, 29, 7, 8, 9, 30, 31, 32, 60, 61, 62, 63, 64] rfl (by decide +kernel)
set_option maxRecDepth 100000 in
theorem gX4_copyFrom_X5_copyFrom : GoodIn wsX4_copyFrom (wsV RX4 94 RX5 yX5_copyFrom wsX5_copyFrom) := goodIn_app (goodIn_r _ [22, 23, 24, 25] rfl (by decide +kernel)) ggX4_copyFrom_X5_copyFrom
set_option maxRecDepth 100000 in
theorem ggX4_copyFrom_X6_copyFrom : GoodIn wsX4_copyFrom wsX6_copyFrom := goodIn_r _ [37, 38, 39, 40, 7, 8, 9, 41, 65, 66, 67] rfl (by decide +kernel)
set_option maxRecDepth 100000 in
theorem gX4_copyFrom_X6_copyFrom : GoodIn wsX4_copyFrom (wsV RX4 98 RX6 yX6_copyFrom wsX6_copyFrom) := goodIn_app (goodIn_r _ [33, 34, 35, 36] rfl (by decide +kernel)) ggX4_copyFrom_X6_copyFrom
set_option maxRecDepth 100000 in
theorem ggX4_passDays_X4_passDay : GoodIn wsX4_passDays wsX4_passDay := goodIn_r _ [5, 6, 7, 8, 9, 10, 11, 12, 13, 4, 14, 15, 16, 17, 18, 19, 20, 21, 22, 23, 24, 25, 26, 27, 28, 29, 30, 31, 32, 33, 34, 35, 36, 37, 38, 39, 40, 41, 42, 43, 44, 45, 46, 47, 48, 49, 50, 51, 52, 53, 54, 55, 56, 57, 58, 59, 60, 61, 62, 63, 64, 65, 66, 67, 68, 69, 70, 71, 72, 73, 74, 75, 76, 77, 78, 79, 80, 81, 82, 83, 84, 85, 86] rfl (by decide +kernel)
set_option maxRecDepth 100000 in
theorem gX4_passDays_X4_passDay : GoodIn wsX4_passDays (wsV RX4 101 RX4 yX4_passDay wsX4_passDay) := goodIn_app (goodIn_r _ [1, 2, 3, 4] rfl (by decide +kernel)) ggX4_passDays_X4_passDay
set_option maxRecDepth 100000 in
theorem ggX4_passDay_X4_fallsOf : GoodIn wsX4_passDay wsX4_fallsOf := goodIn_r _ [10] rfl (by decide +kernel)
set_option maxRecDepth 100000 in
theorem gX4_passDay_X4_fallsOf : GoodIn wsX4_passDay (va_wsS RX4 108 yX4_fallsOf wsX4_fallsOf) := goodIn_app (goodIn_r _ [7, 8, 9] rfl (by decide +kernel)) ggX4_passDay_X4_fallsOf
set_option maxRecDepth 100000 in
theorem ggX4_passDay_X4_stepOf : GoodIn wsX4_passDay wsX4_stepOf := goodIn_r _ [13] rfl (by decide +kernel)
set_option maxRecDepth 100000 in
theorem gX4_passDay_X4_stepOf : GoodIn wsX4_passDay (va_wsS RX4 115 yX4_stepOf wsX4_stepOf) := goodIn_app (goodIn_r _ [11, 12, 9] rfl (by decide +kernel)) ggX4_passDay_X4_stepOf
set_option maxRecDepth 100000 in
theorem ggX4_passDay_X4_whereFalls : GoodIn wsX4_passDay wsX4_whereFalls := goodIn_r _ [17, 18, 19, 60, 61, 62, 63, 64, 65, 66, 67, 68, 69, 70, 71, 72, 73, 74, 75, 76, 77] rfl (by decide +kernel)
set_option maxRecDepth 100000 in
theorem gX4_passDay_X4_whereFalls : GoodIn wsX4_passDay (wsV RX4 119 RX4 yX4_whereFalls wsX4_whereFalls) := goodIn_app (goodIn_r _ [14, 15, 16, 9] rfl (by decide +kernel)) ggX4_passDay_X4_whereFalls
set_option maxRecDepth 100000 in
theorem ggX4_passDay_X4_letFall : GoodIn wsX4_passDay wsX4_letFall := goodIn_r _ [23, 24, 25, 26, 3, 27, 1, 4, 28, 29, 30, 31, 32, 33, 34, 35, 36, 37, 38, 39, 40, 41, 42, 43, 44, 9, 45, 46, 47, 48, 49, 50, 51, 52, 53, 54, 55, 56, 57, 58, 59, 60, 61, 62, 63, 64, 65, 66, 67, 68, 69, 70, 71, 72, 73, 74, 75, 76, 77, 78, 79, 80, 81, 82] rfl (by decide +kernel)
set_option maxRecDepth 100000 in
theorem gX4_passDay_X4_letFall : GoodIn wsX4_passDay (wsV RX4 122 RX4 yX4_letFall wsX4_letFall) := goodIn_app (goodIn_r _ [20, 21, 22, 9] rfl (by decide +kernel)) ggX4_passDay_X4_letFall
set_option maxRecDepth 100000 in
theorem ggX4_letFall_X7_bit : GoodIn wsX4_letFall wsX7_bit := goodIn_r _ [11] rfl (by decide +kernel)
set_option maxRecDepth 100000 in
theorem gX4_letFall_X7_bit_n126 : GoodIn wsX4_letFall (wsX7_bit) := ggX4_letFall_X7_bit
set_option maxRecDepth 100000 in
theorem ggX4_letFall_X5_append : GoodIn wsX4_letFall wsX5_append := goodIn_r _ [16, 17, 18, 19, 20, 21, 59, 60, 61, 62, 63] rfl (by decide +kernel)
set_option maxRecDepth 100000 in
theorem gX4_letFall_X5_append : GoodIn wsX4_letFall (wsV RX4 135 RX5 yX5_append wsX5_append) := goodIn_app (goodIn_r _ [12, 13, 14, 15] rfl (by decide +kernel)) ggX4_letFall_X5_append
set_option maxRecDepth 100000 in
theorem ggX4_letFall_X4_comesTrue : GoodIn wsX4_letFall wsX4_comesTrue := goodIn_r _ [26, 27, 28, 29, 30, 31, 32, 33, 34, 35, 36, 37, 38, 39, 10, 40, 9, 11, 41, 42, 43, 44, 45, 46, 47, 48, 49, 50, 51, 52, 53, 54, 55, 56, 57, 58] rfl (by decide +kernel)
set_option maxRecDepth 100000 in
theorem gX4_letFall_X4_comesTrue : GoodIn wsX4_letFall (wsV RX4 139 RX4 yX4_comesTrue wsX4_comesTrue) := goodIn_app (goodIn_r _ [22, 23, 24, 25] rfl (by decide +kernel)) ggX4_letFall_X4_comesTrue
set_option maxRecDepth 100000 in
theorem ggX4_comesTrue_X7_doneAt : GoodIn wsX4_comesTrue wsX7_doneAt := goodIn_r _ [15] rfl (by decide +kernel)
set_option maxRecDepth 100000 in
theorem gX4_comesTrue_X7_doneAt_n142 : GoodIn wsX4_comesTrue (wsX7_doneAt) := ggX4_comesTrue_X7_doneAt
set_option maxRecDepth 100000 in
theorem ggX4_comesTrue_X7_bit : GoodIn wsX4_comesTrue wsX7_bit := goodIn_r _ [17] rfl (by decide +kernel)
set_option maxRecDepth 100000 in
theorem gX4_comesTrue_X7_bit_n126 : GoodIn wsX4_comesTrue (wsX7_bit) := ggX4_comesTrue_X7_bit
set_option maxRecDepth 100000 in
theorem ggX4_fallSet_X4_fallsOf : GoodIn wsX4_fallSet wsX4_fallsOf := goodIn_r _ [4] rfl (by decide +kernel)
set_option maxRecDepth 100000 in
theorem gX4_fallSet_X4_fallsOf : GoodIn wsX4_fallSet (va_wsS RX4 108 yX4_fallsOf wsX4_fallsOf) := goodIn_app (goodIn_r _ [1, 2, 3] rfl (by decide +kernel)) ggX4_fallSet_X4_fallsOf
set_option maxRecDepth 100000 in
theorem ggX4_fallSet_X4_stepOf : GoodIn wsX4_fallSet wsX4_stepOf := goodIn_r _ [7] rfl (by decide +kernel)
set_option maxRecDepth 100000 in
theorem gX4_fallSet_X4_stepOf : GoodIn wsX4_fallSet (va_wsS RX4 115 yX4_stepOf wsX4_stepOf) := goodIn_app (goodIn_r _ [5, 6, 3] rfl (by decide +kernel)) ggX4_fallSet_X4_stepOf
set_option maxRecDepth 100000 in
theorem ggX4_fallSet_X4_shiftSet : GoodIn wsX4_fallSet wsX4_shiftSet := goodIn_r _ [11, 12, 13, 14, 15, 16, 17, 18, 19, 20, 21, 22, 23, 24, 25, 26, 27, 28, 29, 30, 31] rfl (by decide +kernel)
set_option maxRecDepth 100000 in
theorem gX4_fallSet_X4_shiftSet : GoodIn wsX4_fallSet (wsV RX4 153 RX4 yX4_shiftSet wsX4_shiftSet) := goodIn_app (goodIn_r _ [8, 9, 10, 3] rfl (by decide +kernel)) ggX4_fallSet_X4_shiftSet
set_option maxRecDepth 100000 in
theorem ggX4_broughtBy_X4_fallSet : GoodIn wsX4_broughtBy wsX4_fallSet := goodIn_r _ [8, 9, 10, 7, 11, 12, 13, 14, 15, 16, 17, 18, 2, 19, 25, 26, 27, 28, 29, 30, 31, 32, 33, 34, 35, 36, 37, 38, 39, 40, 41, 42] rfl (by decide +kernel)
set_option maxRecDepth 100000 in
theorem gX4_broughtBy_X4_fallSet : GoodIn wsX4_broughtBy (wsV RX4 156 RX4 yX4_fallSet wsX4_fallSet) := goodIn_app (goodIn_r _ [4, 5, 6, 7] rfl (by decide +kernel)) ggX4_broughtBy_X4_fallSet
set_option maxRecDepth 100000 in
theorem ggX4_broughtBy_X7_bit : GoodIn wsX4_broughtBy wsX7_bit := goodIn_r _ [22] rfl (by decide +kernel)
set_option maxRecDepth 100000 in
theorem gX4_broughtBy_X7_bit_n126 : GoodIn wsX4_broughtBy (wsX7_bit) := ggX4_broughtBy_X7_bit
set_option maxRecDepth 100000 in
theorem ggX4_broughtBy_X7_withBit : GoodIn wsX4_broughtBy wsX7_withBit := goodIn_r _ [24] rfl (by decide +kernel)
set_option maxRecDepth 100000 in
theorem gX4_broughtBy_X7_withBit_n160 : GoodIn wsX4_broughtBy (wsX7_withBit) := ggX4_broughtBy_X7_withBit
set_option maxRecDepth 100000 in
theorem ggX4_isEndless_X4_fallSet : GoodIn wsX4_isEndless wsX4_fallSet := goodIn_r _ [9, 10, 11, 8, 12, 13, 14, 15, 16, 17, 18, 19, 20, 21, 22, 23, 24, 25, 26, 27, 28, 29, 30, 31, 32, 33, 34, 35, 36, 37, 38, 39] rfl (by decide +kernel)
set_option maxRecDepth 100000 in
theorem gX4_isEndless_X4_fallSet : GoodIn wsX4_isEndless (wsV RX4 156 RX4 yX4_fallSet wsX4_fallSet) := goodIn_app (goodIn_r _ [5, 6, 7, 8] rfl (by decide +kernel)) ggX4_isEndless_X4_fallSet
set_option maxRecDepth 100000 in
theorem ggX4_hasEndless_X4_isEndless : GoodIn wsX4_hasEndless wsX4_isEndless := goodIn_r _ [7, 1, 8, 9, 10, 11, 12, 13, 6, 14, 15, 16, 17, 18, 19, 20, 21, 22, 23, 24, 25, 26, 27, 28, 29, 30, 31, 32, 33, 34, 35, 36, 37, 38, 39, 40, 41, 42, 43, 44, 45, 46, 47, 48, 49] rfl (by decide +kernel)
set_option maxRecDepth 100000 in
theorem gX4_hasEndless_X4_isEndless : GoodIn wsX4_hasEndless (wsV RX4 164 RX4 yX4_isEndless wsX4_isEndless) := goodIn_app (goodIn_r _ [3, 4, 5, 6] rfl (by decide +kernel)) ggX4_hasEndless_X4_isEndless
set_option maxRecDepth 100000 in
theorem ggX4_habitFalls_X7_bit : GoodIn wsX4_habitFalls wsX7_bit := goodIn_r _ [6] rfl (by decide +kernel)
set_option maxRecDepth 100000 in
theorem gX4_habitFalls_X7_bit_n126 : GoodIn wsX4_habitFalls (wsX7_bit) := ggX4_habitFalls_X7_bit
set_option maxRecDepth 100000 in
theorem ggX4_habitFalls_X4_fallsOf : GoodIn wsX4_habitFalls wsX4_fallsOf := goodIn_r _ [10] rfl (by decide +kernel)
set_option maxRecDepth 100000 in
theorem gX4_habitFalls_X4_fallsOf : GoodIn wsX4_habitFalls (va_wsS RX4 108 yX4_fallsOf wsX4_fallsOf) := goodIn_app (goodIn_r _ [7, 8, 9] rfl (by decide +kernel)) ggX4_habitFalls_X4_fallsOf
set_option maxRecDepth 100000 in
theorem ggX4_habitFalls_X4_stepOf : GoodIn wsX4_habitFalls wsX4_stepOf := goodIn_r _ [13] rfl (by decide +kernel)
set_option maxRecDepth 100000 in
theorem gX4_habitFalls_X4_stepOf : GoodIn wsX4_habitFalls (va_wsS RX4 115 yX4_stepOf wsX4_stepOf) := goodIn_app (goodIn_r _ [11, 12, 9] rfl (by decide +kernel)) ggX4_habitFalls_X4_stepOf
set_option maxRecDepth 100000 in
theorem ggX4_habitFalls_X4_whereFalls : GoodIn wsX4_habitFalls wsX4_whereFalls := goodIn_r _ [17, 18, 19, 20, 21, 22, 23, 24, 25, 26, 27, 28, 29, 30, 31, 32, 33, 34, 35, 36, 37] rfl (by decide +kernel)
set_option maxRecDepth 100000 in
theorem gX4_habitFalls_X4_whereFalls : GoodIn wsX4_habitFalls (wsV RX4 119 RX4 yX4_whereFalls wsX4_whereFalls) := goodIn_app (goodIn_r _ [14, 15, 16, 9] rfl (by decide +kernel)) ggX4_habitFalls_X4_whereFalls
set_option maxRecDepth 100000 in
theorem ggX4_habitCost_X4_habitFalls : GoodIn wsX4_habitCost wsX4_habitFalls := goodIn_r _ [7, 8, 9, 10, 11, 12, 13, 14, 15, 6, 16, 17, 18, 19, 20, 21, 22, 23, 24, 25, 26, 27, 28, 29, 30, 31, 32, 33, 34, 35, 36, 37, 38, 39, 40, 41, 42, 43] rfl (by decide +kernel)
set_option maxRecDepth 100000 in
theorem gX4_habitCost_X4_habitFalls : GoodIn wsX4_habitCost (wsV RX4 167 RX4 yX4_habitFalls wsX4_habitFalls) := goodIn_app (goodIn_r _ [3, 4, 5, 6] rfl (by decide +kernel)) ggX4_habitCost_X4_habitFalls
set_option maxRecDepth 100000 in
theorem ggX4_habitWeight_X7_bit : GoodIn wsX4_habitWeight wsX7_bit := goodIn_r _ [5] rfl (by decide +kernel)
set_option maxRecDepth 100000 in
theorem gX4_habitWeight_X7_bit_n126 : GoodIn wsX4_habitWeight (wsX7_bit) := ggX4_habitWeight_X7_bit
set_option maxRecDepth 100000 in
theorem ggX4_canPayHabits_X7_bit : GoodIn wsX4_canPayHabits wsX7_bit := goodIn_r _ [7] rfl (by decide +kernel)
set_option maxRecDepth 100000 in
theorem gX4_canPayHabits_X7_bit_n126 : GoodIn wsX4_canPayHabits (wsX7_bit) := ggX4_canPayHabits_X7_bit
set_option maxRecDepth 100000 in
theorem ggX4_canPayHabits_X4_habitFalls : GoodIn wsX4_canPayHabits wsX4_habitFalls := goodIn_r _ [12, 13, 14, 15, 5, 6, 7, 16, 17, 11, 18, 19, 20, 21, 22, 23, 24, 25, 26, 1, 32, 33, 34, 35, 36, 37, 38, 39, 40, 41, 42, 43, 44, 45, 46, 47, 48, 49] rfl (by decide +kernel)
set_option maxRecDepth 100000 in
theorem gX4_canPayHabits_X4_habitFalls : GoodIn wsX4_canPayHabits (wsV RX4 167 RX4 yX4_habitFalls wsX4_habitFalls) := goodIn_app (goodIn_r _ [8, 9, 10, 11] rfl (by decide +kernel)) ggX4_canPayHabits_X4_habitFalls
set_option maxRecDepth 100000 in
theorem ggX4_canPayHabits_X4_habitCost : GoodIn wsX4_canPayHabits wsX4_habitCost := goodIn_r _ [30, 31, 3, 8, 9, 10, 11, 12, 13, 14, 15, 5, 6, 7, 16, 17, 18, 19, 20, 21, 22, 23, 24, 25, 26, 1, 32, 33, 34, 35, 36, 37, 38, 39, 40, 41, 42, 43, 44, 45, 46, 47, 48, 49] rfl (by decide +kernel)
set_option maxRecDepth 100000 in
theorem gX4_canPayHabits_X4_habitCost : GoodIn wsX4_canPayHabits (wsV RX4 170 RX4 yX4_habitCost wsX4_habitCost) := goodIn_app (goodIn_r _ [27, 28, 29, 11] rfl (by decide +kernel)) ggX4_canPayHabits_X4_habitCost
set_option maxRecDepth 100000 in
theorem ggX4_vowByHabit_X4_isHouse : GoodIn wsX4_vowByHabit wsX4_isHouse := goodIn_r _ [9, 10, 11, 12, 13, 24, 25, 26, 27, 28, 29, 30, 31, 32, 33, 34, 35, 36, 37, 38, 39, 40, 41] rfl (by decide +kernel)
set_option maxRecDepth 100000 in
theorem gX4_vowByHabit_X4_isHouse : GoodIn wsX4_vowByHabit (wsV RX4 173 RX4 yX4_isHouse wsX4_isHouse) := goodIn_app (goodIn_r _ [5, 6, 7, 8] rfl (by decide +kernel)) ggX4_vowByHabit_X4_isHouse
set_option maxRecDepth 100000 in
theorem ggX4_vowByHabit_X5_append : GoodIn wsX4_vowByHabit wsX5_append := goodIn_r _ [18, 19, 20, 21, 22, 23, 42, 43, 44, 45, 46] rfl (by decide +kernel)
set_option maxRecDepth 100000 in
theorem gX4_vowByHabit_X5_append : GoodIn wsX4_vowByHabit (wsV RX4 135 RX5 yX5_append wsX5_append) := goodIn_app (goodIn_r _ [14, 15, 16, 17] rfl (by decide +kernel)) ggX4_vowByHabit_X5_append
set_option maxRecDepth 100000 in
theorem ggX7_init_X4_init : GoodIn wsX7_init wsX4_init := goodIn_r _ [25, 26, 2, 3, 27, 28, 29, 30, 31, 32, 33, 34, 35, 36, 37, 38, 39, 40, 41, 42, 43, 44, 45, 46, 47, 48, 49, 50, 51, 52, 53, 54, 55, 56, 79, 80, 81, 82, 83, 84, 85, 86, 87, 88, 89, 90, 91, 92, 93, 94, 95, 96, 124, 125, 126, 127, 128, 129, 130, 131] rfl (by decide +kernel)
set_option maxRecDepth 100000 in
theorem gX7_init_X4_init_n9 : GoodIn wsX7_init (wsX4_init) := ggX7_init_X4_init
set_option maxRecDepth 100000 in
theorem ggX7_init_X1_init : GoodIn wsX7_init wsX1_init := goodIn_r _ [58, 59, 2, 3, 60, 61, 62, 63, 64, 65, 66, 28, 67, 132, 133, 106, 107, 108, 109, 110, 111, 112, 113, 114, 115, 116, 117, 118] rfl (by decide +kernel)
set_option maxRecDepth 100000 in
theorem gX7_init_X1_init_n25 : GoodIn wsX7_init (wsX1_init) := ggX7_init_X1_init
set_option maxRecDepth 100000 in
theorem ggX7_init_X0_init : GoodIn wsX7_init wsX0_init := goodIn_r _ [69, 70, 2, 3, 71, 72, 28, 73, 119, 120] rfl (by decide +kernel)
set_option maxRecDepth 100000 in
theorem gX7_init_X0_init_n37 : GoodIn wsX7_init (wsX0_init) := ggX7_init_X0_init
set_option maxRecDepth 100000 in
theorem ggX7_init_X2_init : GoodIn wsX7_init wsX2_init := goodIn_r _ [75, 76, 2, 3, 77, 28, 78, 121, 122, 123] rfl (by decide +kernel)
set_option maxRecDepth 100000 in
theorem gX7_init_X2_init_n48 : GoodIn wsX7_init (wsX2_init) := ggX7_init_X2_init
set_option maxRecDepth 100000 in
theorem ggX7_feed_X7_within : GoodIn wsX7_feed wsX7_within := goodIn_r _ [6] rfl (by decide +kernel)
set_option maxRecDepth 100000 in
theorem gX7_feed_X7_within : GoodIn wsX7_feed (va_wsS RX7 49 yX7_within wsX7_within) := goodIn_app (goodIn_r _ [3, 4, 5] rfl (by decide +kernel)) ggX7_feed_X7_within
set_option maxRecDepth 100000 in
theorem ggX7_feed_X3_append : GoodIn wsX7_feed wsX3_append := goodIn_r _ [11, 12, 13, 23, 24] rfl (by decide +kernel)
set_option maxRecDepth 100000 in
theorem gX7_feed_X3_append : GoodIn wsX7_feed (wsV RX7 53 RX3 yX3_append wsX3_append) := goodIn_app (goodIn_r _ [7, 8, 9, 10] rfl (by decide +kernel)) ggX7_feed_X3_append
set_option maxRecDepth 100000 in
theorem ggX7_end_X7_within : GoodIn wsX7_end wsX7_within := goodIn_r _ [6] rfl (by decide +kernel)
set_option maxRecDepth 100000 in
theorem gX7_end_X7_within : GoodIn wsX7_end (va_wsS RX7 49 yX7_within wsX7_within) := goodIn_app (goodIn_r _ [3, 4, 5] rfl (by decide +kernel)) ggX7_end_X7_within
set_option maxRecDepth 100000 in
theorem ggX7_text_X1_readInto : GoodIn wsX7_text wsX1_readInto := goodIn_r _ [14, 15, 16, 17, 18, 19, 20, 21, 22, 23, 24, 25, 26, 27, 28, 29, 30, 31, 32, 33, 34, 35, 36, 37, 38, 39, 40, 41, 42, 43, 44, 45, 46, 47, 48, 49, 50, 51, 52, 53, 54, 55, 56, 57, 58, 59, 13, 60, 61, 62, 63, 64, 65, 66, 67, 68, 69, 70, 71, 72, 73, 74, 75, 76, 77, 78, 79, 80, 81, 82, 83, 84, 85, 86, 87, 88, 89, 90, 91, 92, 93, 94, 95, 96, 97, 98, 99, 100, 101, 102, 103, 104, 105, 106, 107, 108, 109, 110, 111, 112, 113, 114, 115, 116, 117, 118, 119, 120, 121, 122, 123, 124, 125, 126, 127, 128, 129, 130, 131, 132, 133, 134, 135, 136, 137, 138, 139, 140, 141, 142, 143, 144, 145, 146, 147, 148, 149, 150, 151, 152, 153, 154, 155, 156, 157, 158, 159, 160, 161, 162, 163, 164, 165, 166, 167, 168, 169, 170, 171, 172, 173, 174, 175, 176, 177, 178, 179, 180, 181, 182, 183, 184, 185, 186, 187, 188, 189, 190, 191, 192, 193, 194, 195, 196, 197, 198, 199, 200, 201, 202, 203, 204, 205, 206, 207, 208, 209, 210, 211, 212, 213, 214, 215, 216, 217, 218, 219, 220, 221, 222, 223, 224, 225, 226, 227, 228, 229, 230, 231, 232, 262, 263, 264, 265, 266, 267, 268, 269, 270, 271, 272, 273, 274, 275, 276, 277, 278, 279, 280, 281, 282, 283, 284, 285, 286, 287, 288, 289, 290, 291, 292, 260, 261, 293, 294, 295, 296, 297, 298, 299, 300] rfl (by decide +kernel)
set_option maxRecDepth 100000 in
theorem gX7_text_X1_readInto : GoodIn wsX7_text (wsV RX7 63 RX1 yX1_readInto wsX1_readInto) := goodIn_app (goodIn_r _ [10, 11, 12, 13] rfl (by decide +kernel)) ggX7_text_X1_readInto
set_option maxRecDepth 100000 in
theorem ggX7_text_X4_copyFrom : GoodIn wsX7_text wsX4_copyFrom := goodIn_r _ [236, 35, 36, 37, 38, 151, 237, 238, 239, 240, 39, 40, 54, 55, 56, 41, 42, 44, 46, 47, 48, 49, 241, 242, 243, 208, 244, 210, 211, 245, 212, 213, 214, 246, 247, 248, 224, 249, 226, 227, 250, 228, 275, 276, 277, 278, 279, 280, 281, 282, 283, 284, 285, 286, 287, 288, 289, 290, 291, 292, 293, 294, 295, 296, 297, 298, 299, 300] rfl (by decide +kernel)
set_option maxRecDepth 100000 in
theorem gX7_text_X4_copyFrom : GoodIn wsX7_text (wsV RX7 73 RX4 yX4_copyFrom wsX4_copyFrom) := goodIn_app (goodIn_r _ [233, 234, 235, 33] rfl (by decide +kernel)) ggX7_text_X4_copyFrom
set_option maxRecDepth 100000 in
theorem ggX7_house_X4_isHouse : GoodIn wsX7_house wsX4_isHouse := goodIn_r _ [14, 15, 16, 17, 18, 35, 36, 37, 38, 39, 40, 41, 42, 43, 44, 45, 46, 47, 48, 49, 50, 51, 52] rfl (by decide +kernel)
set_option maxRecDepth 100000 in
theorem gX7_house_X4_isHouse : GoodIn wsX7_house (wsV RX7 118 RX4 yX4_isHouse wsX4_isHouse) := goodIn_app (goodIn_r _ [10, 11, 12, 13] rfl (by decide +kernel)) ggX7_house_X4_isHouse
set_option maxRecDepth 100000 in
theorem ggX7_house_X7_bit : GoodIn wsX7_house wsX7_bit := goodIn_r _ [21] rfl (by decide +kernel)
set_option maxRecDepth 100000 in
theorem gX7_house_X7_bit : GoodIn wsX7_house (va_wsS RX7 131 yX7_bit wsX7_bit) := goodIn_app (goodIn_r _ [19, 20, 17] rfl (by decide +kernel)) ggX7_house_X7_bit
set_option maxRecDepth 100000 in
theorem ggX7_house_X7_within : GoodIn wsX7_house wsX7_within := goodIn_r _ [18] rfl (by decide +kernel)
set_option maxRecDepth 100000 in
theorem gX7_house_X7_within : GoodIn wsX7_house (va_wsS RX7 49 yX7_within wsX7_within) := goodIn_app (goodIn_r _ [22, 16, 17] rfl (by decide +kernel)) ggX7_house_X7_within
set_option maxRecDepth 100000 in
theorem ggX7_house_X7_doneAt : GoodIn wsX7_house wsX7_doneAt := goodIn_r _ [25] rfl (by decide +kernel)
set_option maxRecDepth 100000 in
theorem gX7_house_X7_doneAt : GoodIn wsX7_house (va_wsS RX7 147 yX7_doneAt wsX7_doneAt) := goodIn_app (goodIn_r _ [23, 24, 17] rfl (by decide +kernel)) ggX7_house_X7_doneAt
set_option maxRecDepth 100000 in
theorem ggX7_cost_X4_isDeed : GoodIn wsX7_cost wsX4_isDeed := goodIn_r _ [7, 8, 9, 10, 11, 21, 22, 23, 24, 25, 26, 27, 28, 29, 30, 31, 32, 33, 34, 35, 36, 37, 38] rfl (by decide +kernel)
set_option maxRecDepth 100000 in
theorem gX7_cost_X4_isDeed : GoodIn wsX7_cost (wsV RX7 150 RX4 yX4_isDeed wsX4_isDeed) := goodIn_app (goodIn_r _ [3, 4, 5, 6] rfl (by decide +kernel)) ggX7_cost_X4_isDeed
set_option maxRecDepth 100000 in
theorem ggX7_vow_X7_within : GoodIn wsX7_vow wsX7_within := goodIn_r _ [11] rfl (by decide +kernel)
set_option maxRecDepth 100000 in
theorem gX7_vow_X7_within : GoodIn wsX7_vow (va_wsS RX7 49 yX7_within wsX7_within) := goodIn_app (goodIn_r _ [8, 9, 10] rfl (by decide +kernel)) ggX7_vow_X7_within
set_option maxRecDepth 100000 in
theorem ggX7_want_X7_within : GoodIn wsX7_want wsX7_within := goodIn_r _ [9] rfl (by decide +kernel)
set_option maxRecDepth 100000 in
theorem gX7_want_X7_within : GoodIn wsX7_want (va_wsS RX7 49 yX7_within wsX7_within) := goodIn_app (goodIn_r _ [6, 7, 8] rfl (by decide +kernel)) ggX7_want_X7_within
set_option maxRecDepth 100000 in
theorem ggX7_fund_X4_isHouse : GoodIn wsX7_fund wsX4_isHouse := goodIn_r _ [7, 8, 9, 10, 11, 22, 23, 24, 25, 26, 27, 28, 29, 30, 31, 32, 33, 34, 35, 36, 37, 38, 39] rfl (by decide +kernel)
set_option maxRecDepth 100000 in
theorem gX7_fund_X4_isHouse : GoodIn wsX7_fund (wsV RX7 118 RX4 yX4_isHouse wsX4_isHouse) := goodIn_app (goodIn_r _ [3, 4, 5, 6] rfl (by decide +kernel)) ggX7_fund_X4_isHouse
set_option maxRecDepth 100000 in
theorem ggX7_fund_X7_within : GoodIn wsX7_fund wsX7_within := goodIn_r _ [11] rfl (by decide +kernel)
set_option maxRecDepth 100000 in
theorem gX7_fund_X7_within : GoodIn wsX7_fund (va_wsS RX7 49 yX7_within wsX7_within) := goodIn_app (goodIn_r _ [12, 9, 10] rfl (by decide +kernel)) ggX7_fund_X7_within
set_option maxRecDepth 100000 in
theorem ggX7_can_X4_isHouse : GoodIn wsX7_can wsX4_isHouse := goodIn_r _ [7, 8, 9, 10, 11, 32, 33, 34, 35, 36, 37, 38, 39, 40, 41, 42, 43, 44, 45, 46, 47, 48, 49] rfl (by decide +kernel)
set_option maxRecDepth 100000 in
theorem gX7_can_X4_isHouse : GoodIn wsX7_can (wsV RX7 118 RX4 yX4_isHouse wsX4_isHouse) := goodIn_app (goodIn_r _ [3, 4, 5, 6] rfl (by decide +kernel)) ggX7_can_X4_isHouse
set_option maxRecDepth 100000 in
theorem ggX7_can_X4_isDeed : GoodIn wsX7_can wsX4_isDeed := goodIn_r _ [15, 16, 9, 10, 11, 32, 33, 34, 35, 36, 37, 38, 39, 40, 41, 42, 43, 44, 45, 46, 47, 48, 49] rfl (by decide +kernel)
set_option maxRecDepth 100000 in
theorem gX7_can_X4_isDeed : GoodIn wsX7_can (wsV RX7 150 RX4 yX4_isDeed wsX4_isDeed) := goodIn_app (goodIn_r _ [12, 13, 14, 6] rfl (by decide +kernel)) ggX7_can_X4_isDeed
set_option maxRecDepth 100000 in
theorem ggX7_can_X7_bit : GoodIn wsX7_can wsX7_bit := goodIn_r _ [19] rfl (by decide +kernel)
set_option maxRecDepth 100000 in
theorem gX7_can_X7_bit : GoodIn wsX7_can (va_wsS RX7 131 yX7_bit wsX7_bit) := goodIn_app (goodIn_r _ [17, 18, 10] rfl (by decide +kernel)) ggX7_can_X7_bit
set_option maxRecDepth 100000 in
theorem ggX7_can_X7_withBit : GoodIn wsX7_can wsX7_withBit := goodIn_r _ [22] rfl (by decide +kernel)
set_option maxRecDepth 100000 in
theorem gX7_can_X7_withBit : GoodIn wsX7_can (va_wsS RX7 170 yX7_withBit wsX7_withBit) := goodIn_app (goodIn_r _ [20, 21, 10] rfl (by decide +kernel)) ggX7_can_X7_withBit
set_option maxRecDepth 100000 in
theorem ggX7_lawyer_X4_isHouse : GoodIn wsX7_lawyer wsX4_isHouse := goodIn_r _ [7, 8, 9, 10, 11, 27, 28, 29, 30, 31, 32, 33, 34, 35, 36, 37, 38, 39, 40, 41, 42, 43, 44] rfl (by decide +kernel)
set_option maxRecDepth 100000 in
theorem gX7_lawyer_X4_isHouse : GoodIn wsX7_lawyer (wsV RX7 118 RX4 yX4_isHouse wsX4_isHouse) := goodIn_app (goodIn_r _ [3, 4, 5, 6] rfl (by decide +kernel)) ggX7_lawyer_X4_isHouse
set_option maxRecDepth 100000 in
theorem ggX7_lawyer_X7_bit : GoodIn wsX7_lawyer wsX7_bit := goodIn_r _ [14] rfl (by decide +kernel)
set_option maxRecDepth 100000 in
theorem gX7_lawyer_X7_bit : GoodIn wsX7_lawyer (va_wsS RX7 131 yX7_bit wsX7_bit) := goodIn_app (goodIn_r _ [12, 13, 10] rfl (by decide +kernel)) ggX7_lawyer_X7_bit
set_option maxRecDepth 100000 in
theorem ggX7_lawyer_X7_withBit : GoodIn wsX7_lawyer wsX7_withBit := goodIn_r _ [17] rfl (by decide +kernel)
set_option maxRecDepth 100000 in
theorem gX7_lawyer_X7_withBit : GoodIn wsX7_lawyer (va_wsS RX7 170 yX7_withBit wsX7_withBit) := goodIn_app (goodIn_r _ [15, 16, 10] rfl (by decide +kernel)) ggX7_lawyer_X7_withBit
set_option maxRecDepth 100000 in
theorem ggX7_habit_X4_isHouse : GoodIn wsX7_habit wsX4_isHouse := goodIn_r _ [7, 8, 9, 10, 11, 37, 38, 39, 40, 41, 42, 43, 44, 45, 46, 47, 48, 49, 50, 51, 52, 53, 54] rfl (by decide +kernel)
set_option maxRecDepth 100000 in
theorem gX7_habit_X4_isHouse : GoodIn wsX7_habit (wsV RX7 118 RX4 yX4_isHouse wsX4_isHouse) := goodIn_app (goodIn_r _ [3, 4, 5, 6] rfl (by decide +kernel)) ggX7_habit_X4_isHouse
set_option maxRecDepth 100000 in
theorem ggX7_habit_X7_isKind : GoodIn wsX7_habit wsX7_isKind := goodIn_r _ [14, 15, 9, 10, 11] rfl (by decide +kernel)
set_option maxRecDepth 100000 in
theorem gX7_habit_X7_isKind : GoodIn wsX7_habit (va_wsS RX7 174 yX7_isKind wsX7_isKind) := goodIn_app (goodIn_r _ [12, 13, 10] rfl (by decide +kernel)) ggX7_habit_X7_isKind
set_option maxRecDepth 100000 in
theorem ggX7_habit_X4_isDeed : GoodIn wsX7_habit wsX4_isDeed := goodIn_r _ [19, 20, 9, 10, 11, 37, 38, 39, 40, 41, 42, 43, 44, 45, 46, 47, 48, 49, 50, 51, 52, 53, 54] rfl (by decide +kernel)
set_option maxRecDepth 100000 in
theorem gX7_habit_X4_isDeed : GoodIn wsX7_habit (wsV RX7 150 RX4 yX4_isDeed wsX4_isDeed) := goodIn_app (goodIn_r _ [16, 17, 18, 6] rfl (by decide +kernel)) ggX7_habit_X4_isDeed
set_option maxRecDepth 100000 in
theorem ggX7_habit_X7_within : GoodIn wsX7_habit wsX7_within := goodIn_r _ [11] rfl (by decide +kernel)
set_option maxRecDepth 100000 in
theorem gX7_habit_X7_within : GoodIn wsX7_habit (va_wsS RX7 49 yX7_within wsX7_within) := goodIn_app (goodIn_r _ [15, 9, 10] rfl (by decide +kernel)) ggX7_habit_X7_within
set_option maxRecDepth 100000 in
theorem ggX7_habit_X4_setHabit : GoodIn wsX7_habit wsX4_setHabit := goodIn_r _ [24, 25, 26, 27, 37, 38, 39, 40, 41, 42, 43, 44, 45, 46, 47, 48, 49, 50, 51, 52, 53, 54] rfl (by decide +kernel)
set_option maxRecDepth 100000 in
theorem gX7_habit_X4_setHabit : GoodIn wsX7_habit (wsV RX7 177 RX4 yX4_setHabit wsX4_setHabit) := goodIn_app (goodIn_r _ [21, 22, 23, 6] rfl (by decide +kernel)) ggX7_habit_X4_setHabit
set_option maxRecDepth 100000 in
theorem ggX7_vows_X4_isHouse : GoodIn wsX7_vows wsX4_isHouse := goodIn_r _ [8, 9, 10, 11, 12, 44, 45, 46, 47, 48, 49, 50, 51, 52, 53, 54, 55, 56, 57, 58, 59, 60, 61] rfl (by decide +kernel)
set_option maxRecDepth 100000 in
theorem gX7_vows_X4_isHouse : GoodIn wsX7_vows (wsV RX7 118 RX4 yX4_isHouse wsX4_isHouse) := goodIn_app (goodIn_r _ [4, 5, 6, 7] rfl (by decide +kernel)) ggX7_vows_X4_isHouse
set_option maxRecDepth 100000 in
theorem ggX7_vows_X7_isKind : GoodIn wsX7_vows wsX7_isKind := goodIn_r _ [15, 16, 10, 11, 12] rfl (by decide +kernel)
set_option maxRecDepth 100000 in
theorem gX7_vows_X7_isKind : GoodIn wsX7_vows (va_wsS RX7 174 yX7_isKind wsX7_isKind) := goodIn_app (goodIn_r _ [13, 14, 11] rfl (by decide +kernel)) ggX7_vows_X7_isKind
set_option maxRecDepth 100000 in
theorem ggX7_vows_X7_isDepth : GoodIn wsX7_vows wsX7_isDepth := goodIn_r _ [19, 16, 10, 11, 12] rfl (by decide +kernel)
set_option maxRecDepth 100000 in
theorem gX7_vows_X7_isDepth : GoodIn wsX7_vows (va_wsS RX7 181 yX7_isDepth wsX7_isDepth) := goodIn_app (goodIn_r _ [17, 18, 11] rfl (by decide +kernel)) ggX7_vows_X7_isDepth
set_option maxRecDepth 100000 in
theorem ggX7_vows_X4_isDeed : GoodIn wsX7_vows wsX4_isDeed := goodIn_r _ [23, 24, 10, 11, 12, 44, 45, 46, 47, 48, 49, 50, 51, 52, 53, 54, 55, 56, 57, 58, 59, 60, 61] rfl (by decide +kernel)
set_option maxRecDepth 100000 in
theorem gX7_vows_X4_isDeed : GoodIn wsX7_vows (wsV RX7 150 RX4 yX4_isDeed wsX4_isDeed) := goodIn_app (goodIn_r _ [20, 21, 22, 7] rfl (by decide +kernel)) ggX7_vows_X4_isDeed
set_option maxRecDepth 100000 in
theorem ggX7_vows_X5_append : GoodIn wsX7_vows wsX5_append := goodIn_r _ [29, 30, 31, 32, 33, 34, 62, 63, 64, 65, 66] rfl (by decide +kernel)
set_option maxRecDepth 100000 in
theorem gX7_vows_X5_append : GoodIn wsX7_vows (wsV RX7 184 RX5 yX5_append wsX5_append) := goodIn_app (goodIn_r _ [25, 26, 27, 28] rfl (by decide +kernel)) ggX7_vows_X5_append
set_option maxRecDepth 100000 in
theorem ggX7_wish_X4_isHouse : GoodIn wsX7_wish wsX4_isHouse := goodIn_r _ [8, 9, 10, 11, 12, 35, 36, 37, 38, 39, 40, 41, 42, 43, 44, 45, 46, 47, 48, 49, 50, 51, 52] rfl (by decide +kernel)
set_option maxRecDepth 100000 in
theorem gX7_wish_X4_isHouse : GoodIn wsX7_wish (wsV RX7 118 RX4 yX4_isHouse wsX4_isHouse) := goodIn_app (goodIn_r _ [4, 5, 6, 7] rfl (by decide +kernel)) ggX7_wish_X4_isHouse
set_option maxRecDepth 100000 in
theorem ggX7_wish_X4_isDeed : GoodIn wsX7_wish wsX4_isDeed := goodIn_r _ [16, 17, 10, 11, 12, 35, 36, 37, 38, 39, 40, 41, 42, 43, 44, 45, 46, 47, 48, 49, 50, 51, 52] rfl (by decide +kernel)
set_option maxRecDepth 100000 in
theorem gX7_wish_X4_isDeed : GoodIn wsX7_wish (wsV RX7 150 RX4 yX4_isDeed wsX4_isDeed) := goodIn_app (goodIn_r _ [13, 14, 15, 7] rfl (by decide +kernel)) ggX7_wish_X4_isDeed
set_option maxRecDepth 100000 in
theorem ggX7_wish_X6_append : GoodIn wsX7_wish wsX6_append := goodIn_r _ [22, 23, 24, 25, 53, 54, 55] rfl (by decide +kernel)
set_option maxRecDepth 100000 in
theorem gX7_wish_X6_append : GoodIn wsX7_wish (wsV RX7 187 RX6 yX6_append wsX6_append) := goodIn_app (goodIn_r _ [18, 19, 20, 21] rfl (by decide +kernel)) ggX7_wish_X6_append
set_option maxRecDepth 100000 in
theorem ggX7_drop_X7_within : GoodIn wsX7_drop wsX7_within := goodIn_r _ [9] rfl (by decide +kernel)
set_option maxRecDepth 100000 in
theorem gX7_drop_X7_within : GoodIn wsX7_drop (va_wsS RX7 49 yX7_within wsX7_within) := goodIn_app (goodIn_r _ [6, 7, 8] rfl (by decide +kernel)) ggX7_drop_X7_within
set_option maxRecDepth 100000 in
theorem ggX7_move_X4_isHouse : GoodIn wsX7_move wsX4_isHouse := goodIn_r _ [7, 8, 9, 10, 11, 34, 35, 36, 37, 38, 39, 40, 41, 42, 43, 44, 45, 46, 47, 48, 49, 50, 51] rfl (by decide +kernel)
set_option maxRecDepth 100000 in
theorem gX7_move_X4_isHouse : GoodIn wsX7_move (wsV RX7 118 RX4 yX4_isHouse wsX4_isHouse) := goodIn_app (goodIn_r _ [3, 4, 5, 6] rfl (by decide +kernel)) ggX7_move_X4_isHouse
set_option maxRecDepth 100000 in
theorem ggX7_move_X4_changeHouses : GoodIn wsX7_move wsX4_changeHouses := goodIn_r _ [15, 16, 17, 34, 35, 36, 37, 38, 39, 40, 41, 42, 43, 44, 45, 46, 47, 48, 49, 50, 51] rfl (by decide +kernel)
set_option maxRecDepth 100000 in
theorem gX7_move_X4_changeHouses : GoodIn wsX7_move (wsV RX7 190 RX4 yX4_changeHouses wsX4_changeHouses) := goodIn_app (goodIn_r _ [12, 13, 14, 6] rfl (by decide +kernel)) ggX7_move_X4_changeHouses
set_option maxRecDepth 100000 in
theorem ggX7_move_J6_bitCount_0f7a4 : GoodIn wsX7_move wsJ6_bitCount_0f7a4 := goodIn_r _ [21, 22, 23, 24] rfl (by decide +kernel)
set_option maxRecDepth 100000 in
theorem gX7_move_J6_bitCount_0f7a4 : GoodIn wsX7_move (va_wsS RX7 194 yJ6_bitCount_0f7a4 wsJ6_bitCount_0f7a4) := goodIn_app (goodIn_r _ [18, 19, 20] rfl (by decide +kernel)) ggX7_move_J6_bitCount_0f7a4
set_option maxRecDepth 100000 in
theorem ggX7_go_X7_within : GoodIn wsX7_go wsX7_within := goodIn_r _ [6] rfl (by decide +kernel)
set_option maxRecDepth 100000 in
theorem gX7_go_X7_within : GoodIn wsX7_go (va_wsS RX7 49 yX7_within wsX7_within) := goodIn_app (goodIn_r _ [3, 4, 5] rfl (by decide +kernel)) ggX7_go_X7_within
set_option maxRecDepth 100000 in
theorem ggX7_go_X4_passDays : GoodIn wsX7_go wsX4_passDays := goodIn_r _ [11, 12, 13, 14, 10, 15, 16, 17, 18, 19, 20, 21, 22, 23, 24, 25, 26, 27, 28, 29, 30, 31, 32, 33, 34, 35, 36, 37, 38, 39, 40, 41, 42, 43, 5, 44, 45, 46, 47, 48, 49, 50, 51, 52, 53, 54, 55, 56, 57, 58, 59, 60, 61, 62, 63, 64, 65, 66, 67, 68, 69, 70, 71, 72, 82, 83, 84, 85, 86, 87, 88, 89, 90, 91, 92, 93, 94, 95, 96, 97, 98, 99, 100, 101, 102, 103, 104] rfl (by decide +kernel)
set_option maxRecDepth 100000 in
theorem gX7_go_X4_passDays : GoodIn wsX7_go (wsV RX7 200 RX4 yX4_passDays wsX4_passDays) := goodIn_app (goodIn_r _ [7, 8, 9, 10] rfl (by decide +kernel)) ggX7_go_X4_passDays
set_option maxRecDepth 100000 in
theorem ggX7_ahead_X4_isHouse : GoodIn wsX7_ahead wsX4_isHouse := goodIn_r _ [8, 9, 10, 11, 12, 119, 120, 121, 122, 123, 124, 125, 126, 127, 128, 129, 130, 131, 132, 133, 134, 135, 136] rfl (by decide +kernel)
set_option maxRecDepth 100000 in
theorem gX7_ahead_X4_isHouse : GoodIn wsX7_ahead (wsV RX7 118 RX4 yX4_isHouse wsX4_isHouse) := goodIn_app (goodIn_r _ [4, 5, 6, 7] rfl (by decide +kernel)) ggX7_ahead_X4_isHouse
set_option maxRecDepth 100000 in
theorem ggX7_ahead_X4_isDeed : GoodIn wsX7_ahead wsX4_isDeed := goodIn_r _ [16, 17, 10, 11, 12, 119, 120, 121, 122, 123, 124, 125, 126, 127, 128, 129, 130, 131, 132, 133, 134, 135, 136] rfl (by decide +kernel)
set_option maxRecDepth 100000 in
theorem gX7_ahead_X4_isDeed : GoodIn wsX7_ahead (wsV RX7 150 RX4 yX4_isDeed wsX4_isDeed) := goodIn_app (goodIn_r _ [13, 14, 15, 7] rfl (by decide +kernel)) ggX7_ahead_X4_isDeed
set_option maxRecDepth 100000 in
theorem ggX7_ahead_X7_within : GoodIn wsX7_ahead wsX7_within := goodIn_r _ [12] rfl (by decide +kernel)
set_option maxRecDepth 100000 in
theorem gX7_ahead_X7_within : GoodIn wsX7_ahead (va_wsS RX7 49 yX7_within wsX7_within) := goodIn_app (goodIn_r _ [18, 10, 11] rfl (by decide +kernel)) ggX7_ahead_X7_within
set_option maxRecDepth 100000 in
theorem ggX7_ahead_X4_copyFrom : GoodIn wsX7_ahead wsX4_copyFrom := goodIn_r _ [22, 9, 23, 17, 24, 25, 26, 27, 28, 29, 30, 31, 32, 33, 34, 35, 36, 37, 38, 39, 40, 41, 42, 43, 44, 45, 46, 47, 48, 49, 50, 51, 52, 53, 54, 55, 56, 57, 58, 59, 60, 61, 119, 120, 121, 122, 123, 124, 125, 126, 127, 128, 129, 130, 131, 132, 133, 134, 135, 136, 137, 138, 139, 140, 141, 142, 143, 144] rfl (by decide +kernel)
set_option maxRecDepth 100000 in
theorem gX7_ahead_X4_copyFrom : GoodIn wsX7_ahead (wsV RX7 73 RX4 yX4_copyFrom wsX4_copyFrom) := goodIn_app (goodIn_r _ [19, 20, 21, 7] rfl (by decide +kernel)) ggX7_ahead_X4_copyFrom
set_option maxRecDepth 100000 in
theorem ggX7_ahead_X4_passDays : GoodIn wsX7_ahead wsX4_passDays := goodIn_r _ [65, 66, 67, 68, 7, 69, 70, 71, 36, 72, 73, 38, 74, 75, 76, 77, 78, 79, 80, 81, 82, 83, 23, 9, 84, 85, 86, 87, 39, 24, 40, 88, 89, 90, 11, 91, 92, 93, 94, 45, 95, 47, 48, 50, 51, 52, 96, 97, 98, 99, 35, 100, 101, 102, 103, 31, 30, 25, 41, 104, 105, 106, 107, 108, 119, 120, 121, 122, 123, 124, 125, 126, 127, 128, 129, 130, 131, 132, 133, 134, 135, 136, 137, 138, 139, 140, 141] rfl (by decide +kernel)
set_option maxRecDepth 100000 in
theorem gX7_ahead_X4_passDays : GoodIn wsX7_ahead (wsV RX7 200 RX4 yX4_passDays wsX4_passDays) := goodIn_app (goodIn_r _ [62, 63, 64, 7] rfl (by decide +kernel)) ggX7_ahead_X4_passDays
set_option maxRecDepth 100000 in
theorem ggX7_ahead_X7_doneAt : GoodIn wsX7_ahead wsX7_doneAt := goodIn_r _ [108] rfl (by decide +kernel)
set_option maxRecDepth 100000 in
theorem gX7_ahead_X7_doneAt : GoodIn wsX7_ahead (va_wsS RX7 147 yX7_doneAt wsX7_doneAt) := goodIn_app (goodIn_r _ [109, 107, 11] rfl (by decide +kernel)) ggX7_ahead_X7_doneAt
set_option maxRecDepth 100000 in
theorem ggX7_rest_X4_copyFrom : GoodIn wsX7_rest wsX4_copyFrom := goodIn_r _ [9, 10, 11, 12, 13, 14, 15, 16, 17, 18, 19, 20, 21, 22, 23, 24, 25, 26, 27, 28, 29, 30, 31, 32, 33, 34, 35, 36, 37, 38, 39, 40, 41, 42, 43, 44, 45, 46, 47, 48, 49, 50, 104, 105, 106, 107, 108, 109, 110, 111, 112, 113, 114, 115, 116, 117, 118, 119, 120, 121, 122, 123, 124, 125, 126, 127, 128, 129] rfl (by decide +kernel)
set_option maxRecDepth 100000 in
theorem gX7_rest_X4_copyFrom : GoodIn wsX7_rest (wsV RX7 73 RX4 yX4_copyFrom wsX4_copyFrom) := goodIn_app (goodIn_r _ [5, 6, 7, 8] rfl (by decide +kernel)) ggX7_rest_X4_copyFrom
set_option maxRecDepth 100000 in
theorem ggX7_rest_X4_passDay : GoodIn wsX7_rest wsX4_passDay := goodIn_r _ [54, 55, 56, 25, 57, 58, 27, 59, 60, 8, 61, 62, 63, 64, 65, 66, 67, 68, 11, 10, 69, 70, 71, 72, 28, 13, 29, 73, 74, 75, 76, 77, 78, 79, 80, 34, 81, 36, 37, 39, 40, 41, 82, 83, 84, 85, 24, 86, 87, 88, 89, 20, 19, 14, 30, 90, 91, 92, 93, 94, 104, 105, 106, 107, 108, 109, 110, 111, 112, 113, 114, 115, 116, 117, 118, 119, 120, 121, 122, 123, 124, 125, 126] rfl (by decide +kernel)
set_option maxRecDepth 100000 in
theorem gX7_rest_X4_passDay : GoodIn wsX7_rest (wsV RX7 203 RX4 yX4_passDay wsX4_passDay) := goodIn_app (goodIn_r _ [51, 52, 53, 8] rfl (by decide +kernel)) ggX7_rest_X4_passDay
set_option maxRecDepth 100000 in
theorem ggX7_plan_X0_fewestVows : GoodIn wsX7_plan wsX0_fewestVows := goodIn_r _ [7, 8, 9, 10, 11, 12, 13, 14, 15, 16, 17, 18, 19, 6, 20, 21, 22, 23, 24, 25, 26, 27, 28, 29, 30, 31, 32, 33, 34, 35, 36, 37, 38, 39, 40, 41, 42, 43, 44, 45, 46, 47, 48, 49, 50, 51, 52, 53, 54, 55, 69, 70, 71, 72, 73, 74, 75, 76, 77, 78, 79, 80, 81, 82, 83, 84, 85, 86, 87, 88, 89, 90, 91] rfl (by decide +kernel)
set_option maxRecDepth 100000 in
theorem gX7_plan_X0_fewestVows : GoodIn wsX7_plan (wsV RX7 207 RX0 yX0_fewestVows wsX0_fewestVows) := goodIn_app (goodIn_r _ [3, 4, 5, 6] rfl (by decide +kernel)) ggX7_plan_X0_fewestVows
set_option maxRecDepth 100000 in
theorem ggX7_plan_X0_vowOfFirstSet : GoodIn wsX7_plan wsX0_vowOfFirstSet := goodIn_r _ [59, 9, 10, 53, 54, 6, 55, 22, 23, 15, 16, 17, 18, 19, 20, 21, 24, 25, 26, 27, 28, 29, 30, 31, 32, 33, 34, 35, 36, 37, 38, 39, 40, 41, 42, 43, 44, 45, 46, 47, 48, 49, 50, 51, 52, 71, 72, 73, 74, 75, 76, 77, 78, 79, 80, 81, 82, 83, 84, 85, 86, 87, 88, 69, 70, 89, 90, 91] rfl (by decide +kernel)
set_option maxRecDepth 100000 in
theorem gX7_plan_X0_vowOfFirstSet : GoodIn wsX7_plan (wsV RX7 211 RX0 yX0_vowOfFirstSet wsX0_vowOfFirstSet) := goodIn_app (goodIn_r _ [56, 57, 58, 6] rfl (by decide +kernel)) ggX7_plan_X0_vowOfFirstSet
set_option maxRecDepth 100000 in
theorem ggX7_who_X4_isHouse : GoodIn wsX7_who wsX4_isHouse := goodIn_r _ [7, 8, 9, 10, 11, 57, 58, 59, 60, 61, 62, 63, 64, 65, 66, 67, 68, 69, 70, 71, 72, 73, 74] rfl (by decide +kernel)
set_option maxRecDepth 100000 in
theorem gX7_who_X4_isHouse : GoodIn wsX7_who (wsV RX7 118 RX4 yX4_isHouse wsX4_isHouse) := goodIn_app (goodIn_r _ [3, 4, 5, 6] rfl (by decide +kernel)) ggX7_who_X4_isHouse
set_option maxRecDepth 100000 in
theorem ggX7_who_X4_isDeed : GoodIn wsX7_who wsX4_isDeed := goodIn_r _ [15, 16, 9, 10, 11, 57, 58, 59, 60, 61, 62, 63, 64, 65, 66, 67, 68, 69, 70, 71, 72, 73, 74] rfl (by decide +kernel)
set_option maxRecDepth 100000 in
theorem gX7_who_X4_isDeed : GoodIn wsX7_who (wsV RX7 150 RX4 yX4_isDeed wsX4_isDeed) := goodIn_app (goodIn_r _ [12, 13, 14, 6] rfl (by decide +kernel)) ggX7_who_X4_isDeed
set_option maxRecDepth 100000 in
theorem ggX7_who_X7_within : GoodIn wsX7_who wsX7_within := goodIn_r _ [11] rfl (by decide +kernel)
set_option maxRecDepth 100000 in
theorem gX7_who_X7_within : GoodIn wsX7_who (va_wsS RX7 49 yX7_within wsX7_within) := goodIn_app (goodIn_r _ [17, 9, 10] rfl (by decide +kernel)) ggX7_who_X7_within
set_option maxRecDepth 100000 in
theorem ggX7_who_X7_numberOf : GoodIn wsX7_who wsX7_numberOf := goodIn_r _ [20] rfl (by decide +kernel)
set_option maxRecDepth 100000 in
theorem gX7_who_X7_numberOf : GoodIn wsX7_who (va_wsS RX7 215 yX7_numberOf wsX7_numberOf) := goodIn_app (goodIn_r _ [18, 19, 10] rfl (by decide +kernel)) ggX7_who_X7_numberOf
set_option maxRecDepth 100000 in
theorem ggX7_who_X4_broughtBy : GoodIn wsX7_who wsX4_broughtBy := goodIn_r _ [24, 25, 8, 26, 27, 28, 29, 6, 30, 31, 32, 33, 34, 35, 36, 37, 38, 39, 40, 41, 42, 10, 43, 44, 45, 57, 58, 59, 60, 61, 62, 63, 64, 65, 66, 67, 68, 69, 70, 71, 72, 73, 74] rfl (by decide +kernel)
set_option maxRecDepth 100000 in
theorem gX7_who_X4_broughtBy : GoodIn wsX7_who (wsV RX7 219 RX4 yX4_broughtBy wsX4_broughtBy) := goodIn_app (goodIn_r _ [21, 22, 23, 6] rfl (by decide +kernel)) ggX7_who_X4_broughtBy
set_option maxRecDepth 100000 in
theorem ggX7_who_X7_bit : GoodIn wsX7_who wsX7_bit := goodIn_r _ [43] rfl (by decide +kernel)
set_option maxRecDepth 100000 in
theorem gX7_who_X7_bit : GoodIn wsX7_who (va_wsS RX7 131 yX7_bit wsX7_bit) := goodIn_app (goodIn_r _ [46, 42, 10] rfl (by decide +kernel)) ggX7_who_X7_bit
set_option maxRecDepth 100000 in
theorem ggX7_who_X7_withBit : GoodIn wsX7_who wsX7_withBit := goodIn_r _ [45] rfl (by decide +kernel)
set_option maxRecDepth 100000 in
theorem gX7_who_X7_withBit : GoodIn wsX7_who (va_wsS RX7 170 yX7_withBit wsX7_withBit) := goodIn_app (goodIn_r _ [47, 44, 10] rfl (by decide +kernel)) ggX7_who_X7_withBit
set_option maxRecDepth 100000 in
theorem ggX7_ways_X4_isHouse : GoodIn wsX7_ways wsX4_isHouse := goodIn_r _ [7, 8, 9, 10, 11, 56, 57, 58, 59, 60, 61, 62, 63, 64, 65, 66, 67, 68, 69, 70, 71, 72, 73] rfl (by decide +kernel)
set_option maxRecDepth 100000 in
theorem gX7_ways_X4_isHouse : GoodIn wsX7_ways (wsV RX7 118 RX4 yX4_isHouse wsX4_isHouse) := goodIn_app (goodIn_r _ [3, 4, 5, 6] rfl (by decide +kernel)) ggX7_ways_X4_isHouse
set_option maxRecDepth 100000 in
theorem ggX7_ways_X4_isDeed : GoodIn wsX7_ways wsX4_isDeed := goodIn_r _ [15, 16, 9, 10, 11, 56, 57, 58, 59, 60, 61, 62, 63, 64, 65, 66, 67, 68, 69, 70, 71, 72, 73] rfl (by decide +kernel)
set_option maxRecDepth 100000 in
theorem gX7_ways_X4_isDeed : GoodIn wsX7_ways (wsV RX7 150 RX4 yX4_isDeed wsX4_isDeed) := goodIn_app (goodIn_r _ [12, 13, 14, 6] rfl (by decide +kernel)) ggX7_ways_X4_isDeed
set_option maxRecDepth 100000 in
theorem ggX7_ways_X7_within : GoodIn wsX7_ways wsX7_within := goodIn_r _ [11] rfl (by decide +kernel)
set_option maxRecDepth 100000 in
theorem gX7_ways_X7_within : GoodIn wsX7_ways (va_wsS RX7 49 yX7_within wsX7_within) := goodIn_app (goodIn_r _ [17, 9, 10] rfl (by decide +kernel)) ggX7_ways_X7_within
set_option maxRecDepth 100000 in
theorem ggX7_ways_X7_numbersOf : GoodIn wsX7_ways wsX7_numbersOf := goodIn_r _ [20] rfl (by decide +kernel)
set_option maxRecDepth 100000 in
theorem gX7_ways_X7_numbersOf : GoodIn wsX7_ways (va_wsS RX7 222 yX7_numbersOf wsX7_numbersOf) := goodIn_app (goodIn_r _ [18, 19, 10] rfl (by decide +kernel)) ggX7_ways_X7_numbersOf
set_option maxRecDepth 100000 in
theorem ggX7_ways_X4_broughtBy : GoodIn wsX7_ways wsX4_broughtBy := goodIn_r _ [24, 25, 8, 26, 27, 28, 29, 6, 30, 31, 32, 33, 34, 35, 36, 37, 38, 39, 40, 41, 42, 10, 43, 44, 45, 56, 57, 58, 59, 60, 61, 62, 63, 64, 65, 66, 67, 68, 69, 70, 71, 72, 73] rfl (by decide +kernel)
set_option maxRecDepth 100000 in
theorem gX7_ways_X4_broughtBy : GoodIn wsX7_ways (wsV RX7 219 RX4 yX4_broughtBy wsX4_broughtBy) := goodIn_app (goodIn_r _ [21, 22, 23, 6] rfl (by decide +kernel)) ggX7_ways_X4_broughtBy
set_option maxRecDepth 100000 in
theorem ggX7_ways_X7_bit : GoodIn wsX7_ways wsX7_bit := goodIn_r _ [43] rfl (by decide +kernel)
set_option maxRecDepth 100000 in
theorem gX7_ways_X7_bit : GoodIn wsX7_ways (va_wsS RX7 131 yX7_bit wsX7_bit) := goodIn_app (goodIn_r _ [46, 42, 10] rfl (by decide +kernel)) ggX7_ways_X7_bit
set_option maxRecDepth 100000 in
theorem ggX7_ever_X4_isEndless : GoodIn wsX7_ever wsX4_isEndless := goodIn_r _ [9, 10, 11, 12, 13, 14, 15, 16, 8, 17, 18, 19, 20, 21, 22, 23, 24, 25, 26, 27, 28, 29, 43, 44, 45, 46, 47, 48, 49, 50, 51, 52, 53, 54, 55, 56, 57, 58, 59, 60, 61, 62, 63, 64, 65] rfl (by decide +kernel)
set_option maxRecDepth 100000 in
theorem gX7_ever_X4_isEndless : GoodIn wsX7_ever (wsV RX7 225 RX4 yX4_isEndless wsX4_isEndless) := goodIn_app (goodIn_r _ [5, 6, 7, 8] rfl (by decide +kernel)) ggX7_ever_X4_isEndless
set_option maxRecDepth 100000 in
theorem ggX7_ever_X7_withBit : GoodIn wsX7_ever wsX7_withBit := goodIn_r _ [33] rfl (by decide +kernel)
set_option maxRecDepth 100000 in
theorem gX7_ever_X7_withBit : GoodIn wsX7_ever (va_wsS RX7 170 yX7_withBit wsX7_withBit) := goodIn_app (goodIn_r _ [30, 31, 32] rfl (by decide +kernel)) ggX7_ever_X7_withBit
set_option maxRecDepth 100000 in
theorem ggX7_stop_X7_within : GoodIn wsX7_stop wsX7_within := goodIn_r _ [7] rfl (by decide +kernel)
set_option maxRecDepth 100000 in
theorem gX7_stop_X7_within : GoodIn wsX7_stop (va_wsS RX7 49 yX7_within wsX7_within) := goodIn_app (goodIn_r _ [4, 5, 6] rfl (by decide +kernel)) ggX7_stop_X7_within
set_option maxRecDepth 100000 in
theorem ggX7_stop_J6_bitCount_0f7a4 : GoodIn wsX7_stop wsJ6_bitCount_0f7a4 := goodIn_r _ [11, 12, 13, 14] rfl (by decide +kernel)
set_option maxRecDepth 100000 in
theorem gX7_stop_J6_bitCount_0f7a4 : GoodIn wsX7_stop (va_wsS RX7 194 yJ6_bitCount_0f7a4 wsJ6_bitCount_0f7a4) := goodIn_app (goodIn_r _ [8, 9, 10] rfl (by decide +kernel)) ggX7_stop_J6_bitCount_0f7a4
set_option maxRecDepth 100000 in
theorem ggX7_stop_X4_hasEndless : GoodIn wsX7_stop wsX4_hasEndless := goodIn_r _ [19, 20, 21, 22, 23, 24, 18, 25, 26, 27, 28, 29, 30, 31, 32, 33, 34, 35, 36, 37, 38, 39, 40, 41, 42, 43, 44, 54, 55, 56, 57, 58, 59, 60, 61, 62, 63, 64, 65, 66, 67, 68, 69, 70, 71, 72, 73, 74, 75, 76] rfl (by decide +kernel)
set_option maxRecDepth 100000 in
theorem gX7_stop_X4_hasEndless : GoodIn wsX7_stop (wsV RX7 228 RX4 yX4_hasEndless wsX4_hasEndless) := goodIn_app (goodIn_r _ [15, 16, 17, 18] rfl (by decide +kernel)) ggX7_stop_X4_hasEndless
set_option maxRecDepth 100000 in
theorem ggX7_best_X7_within : GoodIn wsX7_best wsX7_within := goodIn_r _ [7] rfl (by decide +kernel)
set_option maxRecDepth 100000 in
theorem gX7_best_X7_within : GoodIn wsX7_best (va_wsS RX7 49 yX7_within wsX7_within) := goodIn_app (goodIn_r _ [4, 5, 6] rfl (by decide +kernel)) ggX7_best_X7_within
set_option maxRecDepth 100000 in
theorem ggX7_best_X4_copyFrom : GoodIn wsX7_best wsX4_copyFrom := goodIn_r _ [12, 13, 14, 15, 16, 17, 18, 19, 20, 21, 22, 23, 24, 25, 26, 27, 28, 29, 30, 31, 32, 33, 34, 35, 36, 37, 38, 39, 40, 41, 42, 43, 44, 45, 46, 47, 48, 49, 50, 51, 52, 53, 114, 115, 116, 117, 118, 119, 120, 121, 122, 123, 124, 125, 126, 127, 128, 129, 130, 131, 132, 133, 134, 135, 136, 137, 138, 139] rfl (by decide +kernel)
set_option maxRecDepth 100000 in
theorem gX7_best_X4_copyFrom : GoodIn wsX7_best (wsV RX7 73 RX4 yX4_copyFrom wsX4_copyFrom) := goodIn_app (goodIn_r _ [8, 9, 10, 11] rfl (by decide +kernel)) ggX7_best_X4_copyFrom
set_option maxRecDepth 100000 in
theorem ggX7_best_X4_passDays : GoodIn wsX7_best wsX4_passDays := goodIn_r _ [57, 58, 59, 60, 11, 61, 62, 63, 28, 64, 65, 30, 66, 67, 68, 69, 70, 71, 72, 73, 74, 75, 14, 13, 76, 77, 78, 79, 31, 16, 32, 80, 81, 82, 6, 83, 84, 85, 86, 37, 87, 39, 40, 42, 43, 44, 88, 89, 90, 91, 27, 92, 93, 94, 95, 23, 22, 17, 33, 96, 97, 98, 99, 100, 114, 115, 116, 117, 118, 119, 120, 121, 122, 123, 124, 125, 126, 127, 128, 129, 130, 131, 132, 133, 134, 135, 136] rfl (by decide +kernel)
set_option maxRecDepth 100000 in
theorem gX7_best_X4_passDays : GoodIn wsX7_best (wsV RX7 200 RX4 yX4_passDays wsX4_passDays) := goodIn_app (goodIn_r _ [54, 55, 56, 11] rfl (by decide +kernel)) ggX7_best_X4_passDays
set_option maxRecDepth 100000 in
theorem ggX7_best_X4_changeHouses : GoodIn wsX7_best wsX4_changeHouses := goodIn_r _ [104, 22, 23, 114, 115, 116, 117, 118, 119, 120, 121, 122, 123, 124, 125, 126, 127, 128, 129, 130, 131] rfl (by decide +kernel)
set_option maxRecDepth 100000 in
theorem gX7_best_X4_changeHouses : GoodIn wsX7_best (wsV RX7 190 RX4 yX4_changeHouses wsX4_changeHouses) := goodIn_app (goodIn_r _ [101, 102, 103, 11] rfl (by decide +kernel)) ggX7_best_X4_changeHouses
set_option maxRecDepth 100000 in
theorem ggX7_mean_X4_isHouse : GoodIn wsX7_mean wsX4_isHouse := goodIn_r _ [10, 11, 12, 13, 14, 54, 55, 56, 57, 58, 59, 60, 61, 62, 63, 64, 65, 66, 67, 68, 69, 70, 71] rfl (by decide +kernel)
set_option maxRecDepth 100000 in
theorem gX7_mean_X4_isHouse : GoodIn wsX7_mean (wsV RX7 118 RX4 yX4_isHouse wsX4_isHouse) := goodIn_app (goodIn_r _ [6, 7, 8, 9] rfl (by decide +kernel)) ggX7_mean_X4_isHouse
set_option maxRecDepth 100000 in
theorem ggX7_mean_X7_within : GoodIn wsX7_mean wsX7_within := goodIn_r _ [14] rfl (by decide +kernel)
set_option maxRecDepth 100000 in
theorem gX7_mean_X7_within : GoodIn wsX7_mean (va_wsS RX7 49 yX7_within wsX7_within) := goodIn_app (goodIn_r _ [15, 12, 13] rfl (by decide +kernel)) ggX7_mean_X7_within
set_option maxRecDepth 100000 in
theorem ggX7_mean_X4_habitCost : GoodIn wsX7_mean wsX4_habitCost := goodIn_r _ [19, 20, 21, 22, 23, 24, 9, 25, 26, 27, 28, 29, 13, 30, 31, 32, 33, 34, 35, 36, 37, 38, 39, 40, 41, 11, 54, 55, 56, 57, 58, 59, 60, 61, 62, 63, 64, 65, 66, 67, 68, 69, 70, 71] rfl (by decide +kernel)
set_option maxRecDepth 100000 in
theorem gX7_mean_X4_habitCost : GoodIn wsX7_mean (wsV RX7 233 RX4 yX4_habitCost wsX4_habitCost) := goodIn_app (goodIn_r _ [16, 17, 18, 9] rfl (by decide +kernel)) ggX7_mean_X4_habitCost
set_option maxRecDepth 100000 in
theorem ggX7_mean_X7_partOfFraction : GoodIn wsX7_mean wsX7_partOfFraction := goodIn_r _ [44] rfl (by decide +kernel)
set_option maxRecDepth 100000 in
theorem gX7_mean_X7_partOfFraction : GoodIn wsX7_mean (va_wsS RX7 238 yX7_partOfFraction wsX7_partOfFraction) := goodIn_app (goodIn_r _ [42, 43, 13] rfl (by decide +kernel)) ggX7_mean_X7_partOfFraction
set_option maxRecDepth 100000 in
theorem ggX7_luck_X4_isHouse : GoodIn wsX7_luck wsX4_isHouse := goodIn_r _ [8, 9, 10, 11, 12, 62, 63, 64, 65, 66, 67, 68, 69, 70, 71, 72, 73, 74, 75, 76, 77, 78, 79] rfl (by decide +kernel)
set_option maxRecDepth 100000 in
theorem gX7_luck_X4_isHouse : GoodIn wsX7_luck (wsV RX7 118 RX4 yX4_isHouse wsX4_isHouse) := goodIn_app (goodIn_r _ [4, 5, 6, 7] rfl (by decide +kernel)) ggX7_luck_X4_isHouse
set_option maxRecDepth 100000 in
theorem ggX7_luck_X7_within : GoodIn wsX7_luck wsX7_within := goodIn_r _ [12] rfl (by decide +kernel)
set_option maxRecDepth 100000 in
theorem gX7_luck_X7_within : GoodIn wsX7_luck (va_wsS RX7 49 yX7_within wsX7_within) := goodIn_app (goodIn_r _ [13, 10, 11] rfl (by decide +kernel)) ggX7_luck_X7_within
set_option maxRecDepth 100000 in
theorem ggX7_luck_X4_habitWeight : GoodIn wsX7_luck wsX4_habitWeight := goodIn_r _ [17, 9, 18, 19, 11, 20, 62, 63, 64, 65, 66, 67, 68, 69, 70, 71, 72, 73, 74, 75, 76, 77, 78, 79] rfl (by decide +kernel)
set_option maxRecDepth 100000 in
theorem gX7_luck_X4_habitWeight : GoodIn wsX7_luck (wsV RX7 242 RX4 yX4_habitWeight wsX4_habitWeight) := goodIn_app (goodIn_r _ [14, 15, 16, 7] rfl (by decide +kernel)) ggX7_luck_X4_habitWeight
set_option maxRecDepth 100000 in
theorem ggX7_luck_X4_canPayHabits : GoodIn wsX7_luck wsX4_canPayHabits := goodIn_r _ [24, 9, 25, 26, 27, 19, 11, 20, 28, 29, 30, 7, 31, 18, 32, 33, 34, 35, 36, 37, 38, 39, 40, 41, 42, 43, 44, 45, 46, 47, 48, 49, 62, 63, 64, 65, 66, 67, 68, 69, 70, 71, 72, 73, 74, 75, 76, 77, 78, 79] rfl (by decide +kernel)
set_option maxRecDepth 100000 in
theorem gX7_luck_X4_canPayHabits : GoodIn wsX7_luck (wsV RX7 246 RX4 yX4_canPayHabits wsX4_canPayHabits) := goodIn_app (goodIn_r _ [21, 22, 23, 7] rfl (by decide +kernel)) ggX7_luck_X4_canPayHabits
set_option maxRecDepth 100000 in
theorem ggX7_luck_X7_partOfFraction : GoodIn wsX7_luck wsX7_partOfFraction := goodIn_r _ [52] rfl (by decide +kernel)
set_option maxRecDepth 100000 in
theorem gX7_luck_X7_partOfFraction : GoodIn wsX7_luck (va_wsS RX7 238 yX7_partOfFraction wsX7_partOfFraction) := goodIn_app (goodIn_r _ [50, 51, 11] rfl (by decide +kernel)) ggX7_luck_X7_partOfFraction
set_option maxRecDepth 100000 in
theorem ggX7_drift_X7_within : GoodIn wsX7_drift wsX7_within := goodIn_r _ [13] rfl (by decide +kernel)
set_option maxRecDepth 100000 in
theorem gX7_drift_X7_within : GoodIn wsX7_drift (va_wsS RX7 49 yX7_within wsX7_within) := goodIn_app (goodIn_r _ [10, 11, 12] rfl (by decide +kernel)) ggX7_drift_X7_within
set_option maxRecDepth 100000 in
theorem ggX7_drift_X4_copyFrom : GoodIn wsX7_drift wsX4_copyFrom := goodIn_r _ [18, 19, 20, 21, 22, 23, 24, 25, 26, 27, 28, 29, 30, 31, 32, 33, 34, 35, 36, 37, 38, 39, 40, 41, 42, 43, 44, 45, 46, 47, 48, 49, 50, 51, 52, 53, 54, 55, 56, 57, 58, 59, 121, 122, 123, 124, 125, 126, 127, 128, 129, 130, 131, 132, 133, 134, 135, 136, 137, 138, 139, 140, 141, 142, 143, 144, 145, 146] rfl (by decide +kernel)
set_option maxRecDepth 100000 in
theorem gX7_drift_X4_copyFrom : GoodIn wsX7_drift (wsV RX7 73 RX4 yX4_copyFrom wsX4_copyFrom) := goodIn_app (goodIn_r _ [14, 15, 16, 17] rfl (by decide +kernel)) ggX7_drift_X4_copyFrom
set_option maxRecDepth 100000 in
theorem ggX7_drift_J9_floorMod_7cf53 : GoodIn wsX7_drift wsJ9_floorMod_7cf53 := goodIn_r _ [63] rfl (by decide +kernel)
set_option maxRecDepth 100000 in
theorem gX7_drift_J9_floorMod_7cf53 : GoodIn wsX7_drift (va_wsS RX7 255 yJ9_floorMod_7cf53 wsJ9_floorMod_7cf53) := goodIn_app (goodIn_r _ [60, 61, 62] rfl (by decide +kernel)) ggX7_drift_J9_floorMod_7cf53
set_option maxRecDepth 100000 in
theorem ggX7_drift_X4_vowByHabit : GoodIn wsX7_drift wsX4_vowByHabit := goodIn_r _ [67, 32, 34, 30, 31, 68, 69, 70, 17, 71, 19, 11, 12, 13, 72, 73, 74, 43, 75, 45, 46, 48, 49, 50, 121, 122, 123, 124, 125, 126, 127, 128, 129, 130, 131, 132, 133, 134, 135, 136, 137, 138, 139, 140, 141, 142, 143] rfl (by decide +kernel)
set_option maxRecDepth 100000 in
theorem gX7_drift_X4_vowByHabit : GoodIn wsX7_drift (wsV RX7 258 RX4 yX4_vowByHabit wsX4_vowByHabit) := goodIn_app (goodIn_r _ [64, 65, 66, 17] rfl (by decide +kernel)) ggX7_drift_X4_vowByHabit
set_option maxRecDepth 100000 in
theorem ggX7_drift_X4_passDay : GoodIn wsX7_drift wsX4_passDay := goodIn_r _ [79, 80, 81, 34, 82, 83, 36, 84, 85, 17, 86, 87, 88, 89, 90, 91, 92, 93, 20, 19, 94, 95, 96, 97, 37, 22, 38, 98, 99, 100, 12, 101, 72, 73, 74, 43, 75, 45, 46, 48, 49, 50, 102, 103, 104, 105, 33, 106, 6, 7, 8, 29, 28, 23, 39, 107, 108, 109, 110, 111, 121, 122, 123, 124, 125, 126, 127, 128, 129, 130, 131, 132, 133, 134, 135, 136, 137, 138, 139, 140, 141, 142, 143] rfl (by decide +kernel)
set_option maxRecDepth 100000 in
theorem gX7_drift_X4_passDay : GoodIn wsX7_drift (wsV RX7 203 RX4 yX4_passDay wsX4_passDay) := goodIn_app (goodIn_r _ [76, 77, 78, 17] rfl (by decide +kernel)) ggX7_drift_X4_passDay
set_option maxRecDepth 100000 in
theorem ggX7_keep_X7_within : GoodIn wsX7_keep wsX7_within := goodIn_r _ [7] rfl (by decide +kernel)
set_option maxRecDepth 100000 in
theorem gX7_keep_X7_within : GoodIn wsX7_keep (va_wsS RX7 49 yX7_within wsX7_within) := goodIn_app (goodIn_r _ [4, 5, 6] rfl (by decide +kernel)) ggX7_keep_X7_within
set_option maxRecDepth 100000 in
theorem ggX7_keep_X7_bit : GoodIn wsX7_keep wsX7_bit := goodIn_r _ [10] rfl (by decide +kernel)
set_option maxRecDepth 100000 in
theorem gX7_keep_X7_bit : GoodIn wsX7_keep (va_wsS RX7 131 yX7_bit wsX7_bit) := goodIn_app (goodIn_r _ [8, 9, 6] rfl (by decide +kernel)) ggX7_keep_X7_bit
set_option maxRecDepth 100000 in
theorem ggX7_keep_X4_copyFrom : GoodIn wsX7_keep wsX4_copyFrom := goodIn_r _ [15, 16, 17, 18, 19, 20, 21, 22, 23, 24, 25, 26, 27, 28, 29, 30, 31, 32, 33, 34, 35, 36, 37, 38, 39, 40, 41, 42, 43, 44, 45, 46, 47, 48, 49, 50, 51, 52, 53, 54, 55, 56, 69, 70, 71, 72, 73, 74, 75, 76, 77, 78, 79, 80, 81, 82, 83, 84, 85, 86, 87, 88, 89, 90, 91, 92, 93, 94] rfl (by decide +kernel)
set_option maxRecDepth 100000 in
theorem gX7_keep_X4_copyFrom : GoodIn wsX7_keep (wsV RX7 73 RX4 yX4_copyFrom wsX4_copyFrom) := goodIn_app (goodIn_r _ [11, 12, 13, 14] rfl (by decide +kernel)) ggX7_keep_X4_copyFrom
set_option maxRecDepth 100000 in
theorem ggX7_keep_X7_withBit : GoodIn wsX7_keep wsX7_withBit := goodIn_r _ [59] rfl (by decide +kernel)
set_option maxRecDepth 100000 in
theorem gX7_keep_X7_withBit : GoodIn wsX7_keep (va_wsS RX7 170 yX7_withBit wsX7_withBit) := goodIn_app (goodIn_r _ [57, 58, 6] rfl (by decide +kernel)) ggX7_keep_X7_withBit
set_option maxRecDepth 100000 in
theorem ggX7_back_X7_within : GoodIn wsX7_back wsX7_within := goodIn_r _ [8] rfl (by decide +kernel)
set_option maxRecDepth 100000 in
theorem gX7_back_X7_within : GoodIn wsX7_back (va_wsS RX7 49 yX7_within wsX7_within) := goodIn_app (goodIn_r _ [5, 6, 7] rfl (by decide +kernel)) ggX7_back_X7_within
set_option maxRecDepth 100000 in
theorem ggX7_back_X7_bit : GoodIn wsX7_back wsX7_bit := goodIn_r _ [11] rfl (by decide +kernel)
set_option maxRecDepth 100000 in
theorem gX7_back_X7_bit : GoodIn wsX7_back (va_wsS RX7 131 yX7_bit wsX7_bit) := goodIn_app (goodIn_r _ [9, 10, 7] rfl (by decide +kernel)) ggX7_back_X7_bit
set_option maxRecDepth 100000 in
theorem ggX7_back_X4_copyFrom : GoodIn wsX7_back wsX4_copyFrom := goodIn_r _ [16, 17, 18, 19, 20, 21, 22, 23, 24, 25, 26, 27, 28, 29, 30, 31, 32, 33, 34, 35, 36, 37, 38, 39, 40, 41, 42, 43, 44, 45, 46, 47, 48, 49, 50, 51, 52, 53, 54, 55, 56, 57, 67, 68, 69, 70, 71, 72, 73, 74, 75, 76, 77, 78, 79, 80, 81, 82, 83, 84, 85, 86, 87, 88, 89, 90, 91, 92] rfl (by decide +kernel)
set_option maxRecDepth 100000 in
theorem gX7_back_X4_copyFrom : GoodIn wsX7_back (wsV RX7 73 RX4 yX4_copyFrom wsX4_copyFrom) := goodIn_app (goodIn_r _ [12, 13, 14, 15] rfl (by decide +kernel)) ggX7_back_X4_copyFrom
set_option maxRecDepth 100000 in
theorem ggX7_sheet_X7_isSheet : GoodIn wsX7_sheet wsX7_isSheet := goodIn_r _ [5, 6, 7, 4, 8] rfl (by decide +kernel)
set_option maxRecDepth 100000 in
theorem gX7_sheet_X7_isSheet : GoodIn wsX7_sheet (va_wsS RX7 262 yX7_isSheet wsX7_isSheet) := goodIn_app (goodIn_r _ [2, 3, 4] rfl (by decide +kernel)) ggX7_sheet_X7_isSheet
set_option maxRecDepth 100000 in
theorem ggX7_sheet_X7_isLane : GoodIn wsX7_sheet wsX7_isLane := goodIn_r _ [11, 6, 7, 4, 8] rfl (by decide +kernel)
set_option maxRecDepth 100000 in
theorem gX7_sheet_X7_isLane : GoodIn wsX7_sheet (va_wsS RX7 265 yX7_isLane wsX7_isLane) := goodIn_app (goodIn_r _ [9, 10, 4] rfl (by decide +kernel)) ggX7_sheet_X7_isLane
set_option maxRecDepth 100000 in
theorem ggX7_sheet_X2_renew : GoodIn wsX7_sheet wsX2_renew := goodIn_r _ [16, 17, 18, 19, 29, 30, 31] rfl (by decide +kernel)
set_option maxRecDepth 100000 in
theorem gX7_sheet_X2_renew : GoodIn wsX7_sheet (wsV RX7 268 RX2 yX2_renew wsX2_renew) := goodIn_app (goodIn_r _ [12, 13, 14, 15] rfl (by decide +kernel)) ggX7_sheet_X2_renew
set_option maxRecDepth 100000 in
theorem ggX7_lay_X7_isSheet : GoodIn wsX7_lay wsX7_isSheet := goodIn_r _ [5, 6, 7, 4, 8] rfl (by decide +kernel)
set_option maxRecDepth 100000 in
theorem gX7_lay_X7_isSheet : GoodIn wsX7_lay (va_wsS RX7 262 yX7_isSheet wsX7_isSheet) := goodIn_app (goodIn_r _ [2, 3, 4] rfl (by decide +kernel)) ggX7_lay_X7_isSheet
set_option maxRecDepth 100000 in
theorem ggX7_lay_X2_faultOfCells : GoodIn wsX7_lay wsX2_faultOfCells := goodIn_r _ [13, 14, 15, 16, 17, 12, 18, 19, 7, 4, 8, 34, 35, 36] rfl (by decide +kernel)
set_option maxRecDepth 100000 in
theorem gX7_lay_X2_faultOfCells : GoodIn wsX7_lay (wsV RX7 271 RX2 yX2_faultOfCells wsX2_faultOfCells) := goodIn_app (goodIn_r _ [9, 10, 11, 12] rfl (by decide +kernel)) ggX7_lay_X2_faultOfCells
set_option maxRecDepth 100000 in
theorem ggX7_lay_X2_put : GoodIn wsX7_lay wsX2_put := goodIn_r _ [23, 19, 24, 34, 35, 36] rfl (by decide +kernel)
set_option maxRecDepth 100000 in
theorem gX7_lay_X2_put : GoodIn wsX7_lay (wsV RX7 274 RX2 yX2_put wsX2_put) := goodIn_app (goodIn_r _ [20, 21, 22, 12] rfl (by decide +kernel)) ggX7_lay_X2_put
set_option maxRecDepth 100000 in
theorem ggX7_read_X7_isSheet : GoodIn wsX7_read wsX7_isSheet := goodIn_r _ [10, 11, 12, 9, 13] rfl (by decide +kernel)
set_option maxRecDepth 100000 in
theorem gX7_read_X7_isSheet : GoodIn wsX7_read (va_wsS RX7 262 yX7_isSheet wsX7_isSheet) := goodIn_app (goodIn_r _ [7, 8, 9] rfl (by decide +kernel)) ggX7_read_X7_isSheet
set_option maxRecDepth 100000 in
theorem ggX7_read_X7_isLane : GoodIn wsX7_read wsX7_isLane := goodIn_r _ [16, 11, 12, 9, 13] rfl (by decide +kernel)
set_option maxRecDepth 100000 in
theorem gX7_read_X7_isLane : GoodIn wsX7_read (va_wsS RX7 265 yX7_isLane wsX7_isLane) := goodIn_app (goodIn_r _ [14, 15, 9] rfl (by decide +kernel)) ggX7_read_X7_isLane
set_option maxRecDepth 100000 in
theorem ggX7_read_X7_within : GoodIn wsX7_read wsX7_within := goodIn_r _ [13] rfl (by decide +kernel)
set_option maxRecDepth 100000 in
theorem gX7_read_X7_within : GoodIn wsX7_read (va_wsS RX7 49 yX7_within wsX7_within) := goodIn_app (goodIn_r _ [11, 12, 9] rfl (by decide +kernel)) ggX7_read_X7_within
set_option maxRecDepth 100000 in
theorem ggX7_read_X2_faultOfLane : GoodIn wsX7_read wsX2_faultOfLane := goodIn_r _ [21, 22, 23, 24, 25, 20, 26, 99, 100, 101] rfl (by decide +kernel)
set_option maxRecDepth 100000 in
theorem gX7_read_X2_faultOfLane : GoodIn wsX7_read (wsV RX7 277 RX2 yX2_faultOfLane wsX2_faultOfLane) := goodIn_app (goodIn_r _ [17, 18, 19, 20] rfl (by decide +kernel)) ggX7_read_X2_faultOfLane
set_option maxRecDepth 100000 in
theorem ggX7_read_X2_faultOfCells : GoodIn wsX7_read wsX2_faultOfCells := goodIn_r _ [30, 31, 23, 24, 25, 20, 26, 22, 12, 9, 13, 99, 100, 101] rfl (by decide +kernel)
set_option maxRecDepth 100000 in
theorem gX7_read_X2_faultOfCells : GoodIn wsX7_read (wsV RX7 271 RX2 yX2_faultOfCells wsX2_faultOfCells) := goodIn_app (goodIn_r _ [27, 28, 29, 20] rfl (by decide +kernel)) ggX7_read_X2_faultOfCells
set_option maxRecDepth 100000 in
theorem ggX7_read_X7_vowFromCells : GoodIn wsX7_read wsX7_vowFromCells := goodIn_r _ [35, 36, 37, 38, 9, 39, 2, 3, 4, 40, 41, 42, 43, 44, 45, 12, 13, 46, 47, 48, 11, 49, 50, 51, 52, 53, 54, 55, 56, 57, 58, 59, 60, 61, 62, 63, 64, 65, 66, 67, 68, 69, 70, 71, 72, 73, 74, 75, 76, 77, 78, 79, 80, 81, 82, 83, 84, 85, 86, 87, 88, 89, 90, 91, 92, 93, 94, 95, 96, 97, 98] rfl (by decide +kernel)
set_option maxRecDepth 100000 in
theorem gX7_read_X7_vowFromCells : GoodIn wsX7_read (wsV RX7 283 RX7 yX7_vowFromCells wsX7_vowFromCells) := goodIn_app (goodIn_r _ [32, 33, 34, 9] rfl (by decide +kernel)) ggX7_read_X7_vowFromCells
set_option maxRecDepth 100000 in
theorem ggX7_count_X4_allDone : GoodIn wsX7_count wsX4_allDone := goodIn_r _ [13, 14, 50, 51, 52, 53, 54, 55, 56, 57, 58, 59, 60, 61, 62, 63, 64, 65, 66, 67] rfl (by decide +kernel)
set_option maxRecDepth 100000 in
theorem gX7_count_X4_allDone : GoodIn wsX7_count (wsV RX7 290 RX4 yX4_allDone wsX4_allDone) := goodIn_app (goodIn_r _ [9, 10, 11, 12] rfl (by decide +kernel)) ggX7_count_X4_allDone
set_option maxRecDepth 100000 in
theorem ggX7_count_X4_allPurses : GoodIn wsX7_count wsX4_allPurses := goodIn_r _ [18, 19, 20, 50, 51, 52, 53, 54, 55, 56, 57, 58, 59, 60, 61, 62, 63, 64, 65, 66, 67] rfl (by decide +kernel)
set_option maxRecDepth 100000 in
theorem gX7_count_X4_allPurses : GoodIn wsX7_count (wsV RX7 293 RX4 yX4_allPurses wsX4_allPurses) := goodIn_app (goodIn_r _ [15, 16, 17, 12] rfl (by decide +kernel)) ggX7_count_X4_allPurses
set_option maxRecDepth 100000 in
theorem ggX7_count_J6_bitCount_0f7a4 : GoodIn wsX7_count wsJ6_bitCount_0f7a4 := goodIn_r _ [24, 25, 26, 27] rfl (by decide +kernel)
set_option maxRecDepth 100000 in
theorem gX7_count_J6_bitCount_0f7a4 : GoodIn wsX7_count (va_wsS RX7 194 yJ6_bitCount_0f7a4 wsJ6_bitCount_0f7a4) := goodIn_app (goodIn_r _ [21, 22, 23] rfl (by decide +kernel)) ggX7_count_J6_bitCount_0f7a4
set_option maxRecDepth 100000 in
theorem ggX7_count_X2_isNothing : GoodIn wsX7_count wsX2_isNothing := goodIn_r _ [32, 33, 70, 71, 72] rfl (by decide +kernel)
set_option maxRecDepth 100000 in
theorem gX7_count_X2_isNothing : GoodIn wsX7_count (wsV RX7 296 RX2 yX2_isNothing wsX2_isNothing) := goodIn_app (goodIn_r _ [28, 29, 30, 31] rfl (by decide +kernel)) ggX7_count_X2_isNothing
set_option maxRecDepth 100000 in
theorem ggX7_count_X5_manyForEver : GoodIn wsX7_count wsX5_manyForEver := goodIn_r _ [38, 39, 40, 73, 74, 75, 76, 77] rfl (by decide +kernel)
set_option maxRecDepth 100000 in
theorem gX7_count_X5_manyForEver : GoodIn wsX7_count (wsV RX7 301 RX5 yX5_manyForEver wsX5_manyForEver) := goodIn_app (goodIn_r _ [34, 35, 36, 37] rfl (by decide +kernel)) ggX7_count_X5_manyForEver
set_option maxRecDepth 100000 in
theorem ggX7_vowFromCells_X7_vows : GoodIn wsX7_vowFromCells wsX7_vows := goodIn_r _ [5, 6, 7, 8, 9, 10, 11, 12, 13, 14, 15, 4, 16, 17, 18, 19, 20, 21, 22, 23, 24, 25, 26, 27, 28, 29, 30, 31, 32, 33, 34, 35, 36, 37, 38, 39, 40, 41, 42, 43, 44, 45, 46, 47, 48, 49, 50, 51, 52, 53, 54, 55, 56, 57, 58, 59, 60, 61, 62, 63, 64, 65, 66, 67, 68, 69, 70] rfl (by decide +kernel)
set_option maxRecDepth 100000 in
theorem gX7_vowFromCells_X7_vows : GoodIn wsX7_vowFromCells (wsV RX7 304 RX7 yX7_vows wsX7_vows) := goodIn_app (goodIn_r _ [1, 2, 3, 4] rfl (by decide +kernel)) ggX7_vowFromCells_X7_vows
set_option maxRecDepth 100000 in
theorem ggX7_isKind_X7_within : GoodIn wsX7_isKind wsX7_within := goodIn_r _ [4] rfl (by decide +kernel)
set_option maxRecDepth 100000 in
theorem gX7_isKind_X7_within : GoodIn wsX7_isKind (va_wsS RX7 49 yX7_within wsX7_within) := goodIn_app (goodIn_r _ [1, 2, 3] rfl (by decide +kernel)) ggX7_isKind_X7_within
set_option maxRecDepth 100000 in
theorem ggX7_isDepth_X7_within : GoodIn wsX7_isDepth wsX7_within := goodIn_r _ [4] rfl (by decide +kernel)
set_option maxRecDepth 100000 in
theorem gX7_isDepth_X7_within : GoodIn wsX7_isDepth (va_wsS RX7 49 yX7_within wsX7_within) := goodIn_app (goodIn_r _ [1, 2, 3] rfl (by decide +kernel)) ggX7_isDepth_X7_within
set_option maxRecDepth 100000 in
theorem ggX7_isSheet_X7_within : GoodIn wsX7_isSheet wsX7_within := goodIn_r _ [4] rfl (by decide +kernel)
set_option maxRecDepth 100000 in
theorem gX7_isSheet_X7_within : GoodIn wsX7_isSheet (va_wsS RX7 49 yX7_within wsX7_within) := goodIn_app (goodIn_r _ [1, 2, 3] rfl (by decide +kernel)) ggX7_isSheet_X7_within
set_option maxRecDepth 100000 in
theorem ggX7_isLane_X7_within : GoodIn wsX7_isLane wsX7_within := goodIn_r _ [4] rfl (by decide +kernel)
set_option maxRecDepth 100000 in
theorem gX7_isLane_X7_within : GoodIn wsX7_isLane (va_wsS RX7 49 yX7_within wsX7_within) := goodIn_app (goodIn_r _ [1, 2, 3] rfl (by decide +kernel)) ggX7_isLane_X7_within
set_option maxRecDepth 100000 in
theorem ggX8_init_X8_firstDraft : GoodIn wsX8_init wsX8_firstDraft := goodIn_r _ [24, 10, 12, 25, 26, 27, 28, 29, 30, 38, 39, 40, 41, 42, 43, 44, 45, 46, 47, 48, 49, 50, 51, 52, 53, 54, 55, 56, 57, 58, 59, 60, 61, 62, 63, 64, 65, 66, 67, 68, 69, 70] rfl (by decide +kernel)
set_option maxRecDepth 100000 in
theorem gX8_init_X8_firstDraft : GoodIn wsX8_init (wsV RX8 53 RX8 yX8_firstDraft wsX8_firstDraft) := goodIn_app (goodIn_r _ [20, 21, 22, 23] rfl (by decide +kernel)) ggX8_init_X8_firstDraft
set_option maxRecDepth 100000 in
theorem ggX8_init_X8_keepDraft : GoodIn wsX8_init wsX8_keepDraft := goodIn_r _ [34, 5, 10, 25, 35, 26, 36, 28, 37, 9, 11, 8, 38, 39, 40, 41, 42, 43, 44, 45, 46, 47, 48, 49, 50, 51, 52, 53, 54, 55, 56, 57, 58, 59, 60, 61, 62, 63, 64, 65, 66, 67, 68, 69, 70] rfl (by decide +kernel)
set_option maxRecDepth 100000 in
theorem gX8_init_X8_keepDraft : GoodIn wsX8_init (wsV RX8 56 RX8 yX8_keepDraft wsX8_keepDraft) := goodIn_app (goodIn_r _ [31, 32, 33, 23] rfl (by decide +kernel)) ggX8_init_X8_keepDraft
set_option maxRecDepth 100000 in
theorem ggX8_feed_X8_in : GoodIn wsX8_feed wsX8_in := goodIn_r _ [7] rfl (by decide +kernel)
set_option maxRecDepth 100000 in
theorem gX8_feed_X8_in : GoodIn wsX8_feed (va_wsS RX8 90 yX8_in wsX8_in) := goodIn_app (goodIn_r _ [4, 5, 6] rfl (by decide +kernel)) ggX8_feed_X8_in
set_option maxRecDepth 100000 in
theorem ggX8_end_X8_in : GoodIn wsX8_end wsX8_in := goodIn_r _ [5] rfl (by decide +kernel)
set_option maxRecDepth 100000 in
theorem gX8_end_X8_in : GoodIn wsX8_end (va_wsS RX8 90 yX8_in wsX8_in) := goodIn_app (goodIn_r _ [2, 3, 4] rfl (by decide +kernel)) ggX8_end_X8_in
set_option maxRecDepth 100000 in
theorem ggX8_is_X8_look : GoodIn wsX8_is wsX8_look := goodIn_r _ [7, 8, 9, 10, 11, 12, 13, 14, 15, 16, 17, 18, 19, 20, 21, 22, 23, 24, 25, 26, 27, 28, 29, 30, 31, 32, 33, 34, 35, 36, 37, 38, 39, 40, 41, 42] rfl (by decide +kernel)
set_option maxRecDepth 100000 in
theorem gX8_is_X8_look : GoodIn wsX8_is (wsV RX8 109 RX8 yX8_look wsX8_look) := goodIn_app (goodIn_r _ [3, 4, 5, 6] rfl (by decide +kernel)) ggX8_is_X8_look
set_option maxRecDepth 100000 in
theorem ggX8_ends_X8_look : GoodIn wsX8_ends wsX8_look := goodIn_r _ [6, 7, 8, 9, 10, 11, 12, 13, 14, 15, 16, 17, 18, 19, 20, 21, 22, 23, 24, 25, 26, 27, 28, 29, 30, 31, 32, 33, 34, 35, 36, 37, 38, 39, 40, 41] rfl (by decide +kernel)
set_option maxRecDepth 100000 in
theorem gX8_ends_X8_look : GoodIn wsX8_ends (wsV RX8 109 RX8 yX8_look wsX8_look) := goodIn_app (goodIn_r _ [2, 3, 4, 5] rfl (by decide +kernel)) ggX8_ends_X8_look
set_option maxRecDepth 100000 in
theorem ggX8_ofHouses_X8_is : GoodIn wsX8_ofHouses wsX8_is := goodIn_r _ [5, 6, 7, 8, 9, 10, 4, 11, 12, 13, 18, 19, 20, 21, 22, 23, 24, 25, 26, 27, 28, 29, 30, 31, 32, 33, 34, 35, 36, 37, 38, 39, 40, 41, 42, 43, 44, 45, 46, 47, 48, 49, 50] rfl (by decide +kernel)
set_option maxRecDepth 100000 in
theorem gX8_ofHouses_X8_is : GoodIn wsX8_ofHouses (wsV RX8 113 RX8 yX8_is wsX8_is) := goodIn_app (goodIn_r _ [1, 2, 3, 4] rfl (by decide +kernel)) ggX8_ofHouses_X8_is
set_option maxRecDepth 100000 in
theorem ggX8_ofHouses_X8_ends : GoodIn wsX8_ofHouses wsX8_ends := goodIn_r _ [17, 7, 8, 9, 10, 4, 11, 12, 13, 18, 19, 20, 21, 22, 23, 24, 25, 26, 27, 28, 29, 30, 31, 32, 33, 34, 35, 36, 37, 38, 39, 40, 41, 42, 43, 44, 45, 46, 47, 48, 49, 50] rfl (by decide +kernel)
set_option maxRecDepth 100000 in
theorem gX8_ofHouses_X8_ends : GoodIn wsX8_ofHouses (wsV RX8 117 RX8 yX8_ends wsX8_ends) := goodIn_app (goodIn_r _ [14, 15, 16, 4] rfl (by decide +kernel)) ggX8_ofHouses_X8_ends
set_option maxRecDepth 100000 in
theorem ggX8_lineNow_X8_is : GoodIn wsX8_lineNow wsX8_is := goodIn_r _ [5, 6, 7, 8, 9, 10, 4, 11, 12, 13, 22, 23, 24, 25, 26, 27, 28, 29, 30, 31, 32, 33, 34, 35, 36, 37, 38, 39, 40, 41, 42, 43, 44, 45, 46, 47, 48, 49, 50, 51, 52, 53, 54] rfl (by decide +kernel)
set_option maxRecDepth 100000 in
theorem gX8_lineNow_X8_is : GoodIn wsX8_lineNow (wsV RX8 113 RX8 yX8_is wsX8_is) := goodIn_app (goodIn_r _ [1, 2, 3, 4] rfl (by decide +kernel)) ggX8_lineNow_X8_is
set_option maxRecDepth 100000 in
theorem ggX8_lineNow_X8_ends : GoodIn wsX8_lineNow wsX8_ends := goodIn_r _ [17, 7, 8, 9, 10, 4, 11, 12, 13, 22, 23, 24, 25, 26, 27, 28, 29, 30, 31, 32, 33, 34, 35, 36, 37, 38, 39, 40, 41, 42, 43, 44, 45, 46, 47, 48, 49, 50, 51, 52, 53, 54] rfl (by decide +kernel)
set_option maxRecDepth 100000 in
theorem gX8_lineNow_X8_ends : GoodIn wsX8_lineNow (wsV RX8 117 RX8 yX8_ends wsX8_ends) := goodIn_app (goodIn_r _ [14, 15, 16, 4] rfl (by decide +kernel)) ggX8_lineNow_X8_ends
set_option maxRecDepth 100000 in
theorem ggX8_lineNow_X8_ofHouses : GoodIn wsX8_lineNow wsX8_ofHouses := goodIn_r _ [21, 1, 2, 3, 4, 5, 6, 7, 8, 9, 10, 11, 12, 13, 14, 15, 16, 17, 22, 23, 24, 25, 26, 27, 28, 29, 30, 31, 32, 33, 34, 35, 36, 37, 38, 39, 40, 41, 42, 43, 44, 45, 46, 47, 48, 49, 50, 51, 52, 53, 54] rfl (by decide +kernel)
set_option maxRecDepth 100000 in
theorem gX8_lineNow_X8_ofHouses : GoodIn wsX8_lineNow (wsV RX8 121 RX8 yX8_ofHouses wsX8_ofHouses) := goodIn_app (goodIn_r _ [18, 19, 20, 4] rfl (by decide +kernel)) ggX8_lineNow_X8_ofHouses
set_option maxRecDepth 100000 in
theorem ggX8_kindNow_X8_is : GoodIn wsX8_kindNow wsX8_is := goodIn_r _ [5, 6, 7, 8, 9, 10, 4, 11, 12, 13, 18, 19, 20, 21, 22, 23, 24, 25, 26, 27, 28, 29, 30, 31, 32, 33, 34, 35, 36, 37, 38, 39, 40, 41, 42, 43, 44, 45, 46, 47, 48, 49, 50] rfl (by decide +kernel)
set_option maxRecDepth 100000 in
theorem gX8_kindNow_X8_is : GoodIn wsX8_kindNow (wsV RX8 113 RX8 yX8_is wsX8_is) := goodIn_app (goodIn_r _ [1, 2, 3, 4] rfl (by decide +kernel)) ggX8_kindNow_X8_is
set_option maxRecDepth 100000 in
theorem ggX8_kindNow_X8_ends : GoodIn wsX8_kindNow wsX8_ends := goodIn_r _ [17, 7, 8, 9, 10, 4, 11, 12, 13, 18, 19, 20, 21, 22, 23, 24, 25, 26, 27, 28, 29, 30, 31, 32, 33, 34, 35, 36, 37, 38, 39, 40, 41, 42, 43, 44, 45, 46, 47, 48, 49, 50] rfl (by decide +kernel)
set_option maxRecDepth 100000 in
theorem gX8_kindNow_X8_ends : GoodIn wsX8_kindNow (wsV RX8 117 RX8 yX8_ends wsX8_ends) := goodIn_app (goodIn_r _ [14, 15, 16, 4] rfl (by decide +kernel)) ggX8_kindNow_X8_ends
set_option maxRecDepth 100000 in
theorem ggX8_next_X8_look : GoodIn wsX8_next wsX8_look := goodIn_r _ [14, 15, 16, 25, 26, 27, 28, 29, 30, 31, 32, 33, 34, 35, 36, 37, 38, 39, 40, 41, 42, 43, 44, 45, 46, 47, 48, 49, 50, 51, 52, 53, 54, 55, 56, 57] rfl (by decide +kernel)
set_option maxRecDepth 100000 in
theorem gX8_next_X8_look : GoodIn wsX8_next (wsV RX8 109 RX8 yX8_look wsX8_look) := goodIn_app (goodIn_r _ [10, 11, 12, 13] rfl (by decide +kernel)) ggX8_next_X8_look
set_option maxRecDepth 100000 in
theorem ggX8_next_X8_in : GoodIn wsX8_next wsX8_in := goodIn_r _ [19] rfl (by decide +kernel)
set_option maxRecDepth 100000 in
theorem gX8_next_X8_in : GoodIn wsX8_next (va_wsS RX8 90 yX8_in wsX8_in) := goodIn_app (goodIn_r _ [17, 18, 13] rfl (by decide +kernel)) ggX8_next_X8_in
set_option maxRecDepth 100000 in
theorem ggX8_next_X8_needs : GoodIn wsX8_next wsX8_needs := goodIn_r _ [23, 1, 3, 24, 25, 26, 27, 28, 29, 30, 31, 32, 33, 34, 35, 36, 37, 38, 39, 40, 41, 42, 43, 44, 45, 46, 47, 48, 49, 50, 51, 52, 53, 54, 55, 56, 57] rfl (by decide +kernel)
set_option maxRecDepth 100000 in
theorem gX8_next_X8_needs : GoodIn wsX8_next (wsV RX8 139 RX8 yX8_needs wsX8_needs) := goodIn_app (goodIn_r _ [20, 21, 22, 13] rfl (by decide +kernel)) ggX8_next_X8_needs
set_option maxRecDepth 100000 in
theorem ggX8_looked_X8_needs : GoodIn wsX8_looked wsX8_needs := goodIn_r _ [8, 1, 9, 10, 14, 15, 16, 17, 18, 19, 20, 21, 22, 23, 24, 25, 26, 27, 28, 29, 30, 31, 32, 33, 34, 35, 36, 37, 38, 39, 40, 41, 42, 43, 44, 45, 46] rfl (by decide +kernel)
set_option maxRecDepth 100000 in
theorem gX8_looked_X8_needs : GoodIn wsX8_looked (wsV RX8 139 RX8 yX8_needs wsX8_needs) := goodIn_app (goodIn_r _ [4, 5, 6, 7] rfl (by decide +kernel)) ggX8_looked_X8_needs
set_option maxRecDepth 100000 in
theorem ggX8_looked_X8_in : GoodIn wsX8_looked wsX8_in := goodIn_r _ [13] rfl (by decide +kernel)
set_option maxRecDepth 100000 in
theorem gX8_looked_X8_in : GoodIn wsX8_looked (va_wsS RX8 90 yX8_in wsX8_in) := goodIn_app (goodIn_r _ [11, 12, 7] rfl (by decide +kernel)) ggX8_looked_X8_in
set_option maxRecDepth 100000 in
theorem ggX8_readNumber_X8_looked : GoodIn wsX8_readNumber wsX8_looked := goodIn_r _ [5, 6, 7, 8, 9, 10, 11, 4, 12, 13, 14, 15, 16, 17, 33, 34, 35, 36, 37, 38, 39, 40, 41, 42, 43, 44, 45, 46, 47, 48, 49, 50, 51, 52, 53, 54, 55, 56, 57, 58, 59, 60, 61, 62, 63, 64, 65] rfl (by decide +kernel)
set_option maxRecDepth 100000 in
theorem gX8_readNumber_X8_looked : GoodIn wsX8_readNumber (wsV RX8 143 RX8 yX8_looked wsX8_looked) := goodIn_app (goodIn_r _ [1, 2, 3, 4] rfl (by decide +kernel)) ggX8_readNumber_X8_looked
set_option maxRecDepth 100000 in
theorem ggX8_readNumber_X8_next : GoodIn wsX8_readNumber wsX8_next := goodIn_r _ [21, 6, 22, 13, 7, 23, 24, 25, 26, 8, 27, 28, 29, 4, 30, 31, 32, 15, 16, 17, 9, 10, 11, 12, 14, 33, 34, 35, 36, 37, 38, 39, 40, 41, 42, 43, 44, 45, 46, 47, 48, 49, 50, 51, 52, 53, 54, 55, 56, 57, 58, 59, 60, 61, 62, 63, 64, 65] rfl (by decide +kernel)
set_option maxRecDepth 100000 in
theorem gX8_readNumber_X8_next : GoodIn wsX8_readNumber (wsV RX8 147 RX8 yX8_next wsX8_next) := goodIn_app (goodIn_r _ [18, 19, 20, 4] rfl (by decide +kernel)) ggX8_readNumber_X8_next
set_option maxRecDepth 100000 in
theorem ggX8_lookedHouse_X8_looked : GoodIn wsX8_lookedHouse wsX8_looked := goodIn_r _ [7, 1, 8, 9, 10, 11, 12, 6, 13, 14, 15, 16, 17, 18, 19, 20, 21, 22, 23, 24, 25, 26, 27, 28, 29, 30, 31, 32, 33, 34, 35, 36, 37, 38, 39, 40, 41, 42, 43, 44, 45, 46, 47, 48, 49, 50, 51] rfl (by decide +kernel)
set_option maxRecDepth 100000 in
theorem gX8_lookedHouse_X8_looked : GoodIn wsX8_lookedHouse (wsV RX8 143 RX8 yX8_looked wsX8_looked) := goodIn_app (goodIn_r _ [3, 4, 5, 6] rfl (by decide +kernel)) ggX8_lookedHouse_X8_looked
set_option maxRecDepth 100000 in
theorem ggX8_lookedDeed_X8_looked : GoodIn wsX8_lookedDeed wsX8_looked := goodIn_r _ [7, 1, 8, 9, 10, 11, 12, 6, 13, 14, 15, 16, 17, 18, 19, 20, 21, 22, 23, 24, 25, 26, 27, 28, 29, 30, 31, 32, 33, 34, 35, 36, 37, 38, 39, 40, 41, 42, 43, 44, 45, 46, 47, 48, 49, 50, 51] rfl (by decide +kernel)
set_option maxRecDepth 100000 in
theorem gX8_lookedDeed_X8_looked : GoodIn wsX8_lookedDeed (wsV RX8 143 RX8 yX8_looked wsX8_looked) := goodIn_app (goodIn_r _ [3, 4, 5, 6] rfl (by decide +kernel)) ggX8_lookedDeed_X8_looked
set_option maxRecDepth 100000 in
theorem ggX8_readAHouse_X8_lookedHouse : GoodIn wsX8_readAHouse wsX8_lookedHouse := goodIn_r _ [5, 6, 7, 8, 9, 10, 4, 11, 12, 13, 14, 15, 16, 17, 18, 19, 20, 21, 22, 38, 39, 40, 41, 42, 43, 44, 45, 46, 47, 48, 49, 50, 51, 52, 53, 54, 55, 56, 57, 58, 59, 60, 61, 62, 63, 64, 65, 66, 67, 68, 69, 70] rfl (by decide +kernel)
set_option maxRecDepth 100000 in
theorem gX8_readAHouse_X8_lookedHouse : GoodIn wsX8_readAHouse (wsV RX8 150 RX8 yX8_lookedHouse wsX8_lookedHouse) := goodIn_app (goodIn_r _ [1, 2, 3, 4] rfl (by decide +kernel)) ggX8_readAHouse_X8_lookedHouse
set_option maxRecDepth 100000 in
theorem ggX8_readAHouse_X8_next : GoodIn wsX8_readAHouse wsX8_next := goodIn_r _ [26, 6, 27, 18, 12, 28, 29, 30, 31, 13, 32, 33, 34, 4, 35, 36, 37, 20, 21, 22, 14, 15, 16, 17, 19, 38, 39, 40, 41, 42, 43, 44, 45, 46, 47, 48, 49, 50, 51, 52, 53, 54, 55, 56, 57, 58, 59, 60, 61, 62, 63, 64, 65, 66, 67, 68, 69, 70] rfl (by decide +kernel)
set_option maxRecDepth 100000 in
theorem gX8_readAHouse_X8_next : GoodIn wsX8_readAHouse (wsV RX8 147 RX8 yX8_next wsX8_next) := goodIn_app (goodIn_r _ [23, 24, 25, 4] rfl (by decide +kernel)) ggX8_readAHouse_X8_next
set_option maxRecDepth 100000 in
theorem ggX8_readADeed_X8_lookedDeed : GoodIn wsX8_readADeed wsX8_lookedDeed := goodIn_r _ [5, 6, 7, 8, 9, 10, 4, 11, 12, 13, 14, 15, 16, 17, 18, 19, 20, 21, 22, 38, 39, 40, 41, 42, 43, 44, 45, 46, 47, 48, 49, 50, 51, 52, 53, 54, 55, 56, 57, 58, 59, 60, 61, 62, 63, 64, 65, 66, 67, 68, 69, 70] rfl (by decide +kernel)
set_option maxRecDepth 100000 in
theorem gX8_readADeed_X8_lookedDeed : GoodIn wsX8_readADeed (wsV RX8 153 RX8 yX8_lookedDeed wsX8_lookedDeed) := goodIn_app (goodIn_r _ [1, 2, 3, 4] rfl (by decide +kernel)) ggX8_readADeed_X8_lookedDeed
set_option maxRecDepth 100000 in
theorem ggX8_readADeed_X8_next : GoodIn wsX8_readADeed wsX8_next := goodIn_r _ [26, 6, 27, 18, 12, 28, 29, 30, 31, 13, 32, 33, 34, 4, 35, 36, 37, 20, 21, 22, 14, 15, 16, 17, 19, 38, 39, 40, 41, 42, 43, 44, 45, 46, 47, 48, 49, 50, 51, 52, 53, 54, 55, 56, 57, 58, 59, 60, 61, 62, 63, 64, 65, 66, 67, 68, 69, 70] rfl (by decide +kernel)
set_option maxRecDepth 100000 in
theorem gX8_readADeed_X8_next : GoodIn wsX8_readADeed (wsV RX8 147 RX8 yX8_next wsX8_next) := goodIn_app (goodIn_r _ [23, 24, 25, 4] rfl (by decide +kernel)) ggX8_readADeed_X8_next
set_option maxRecDepth 100000 in
theorem ggX8_readKind_X8_kindNow : GoodIn wsX8_readKind wsX8_kindNow := goodIn_r _ [7, 8, 9, 10, 6, 11, 12, 13, 14, 15, 16, 17, 18, 19, 20, 21, 22, 23, 41, 42, 43, 44, 45, 46, 47, 48, 49, 50, 51, 52, 53, 54, 55, 56, 57, 58, 59, 60, 61, 62, 63, 64, 65, 66, 67, 68, 69, 70, 71, 72, 73] rfl (by decide +kernel)
set_option maxRecDepth 100000 in
theorem gX8_readKind_X8_kindNow : GoodIn wsX8_readKind (wsV RX8 156 RX8 yX8_kindNow wsX8_kindNow) := goodIn_app (goodIn_r _ [3, 4, 5, 6] rfl (by decide +kernel)) ggX8_readKind_X8_kindNow
set_option maxRecDepth 100000 in
theorem ggX8_readKind_X8_needs : GoodIn wsX8_readKind wsX8_needs := goodIn_r _ [27, 1, 13, 28, 41, 42, 43, 44, 45, 46, 47, 48, 49, 50, 51, 52, 53, 54, 55, 56, 57, 58, 59, 60, 61, 62, 63, 64, 65, 66, 67, 68, 69, 70, 71, 72, 73] rfl (by decide +kernel)
set_option maxRecDepth 100000 in
theorem gX8_readKind_X8_needs : GoodIn wsX8_readKind (wsV RX8 139 RX8 yX8_needs wsX8_needs) := goodIn_app (goodIn_r _ [24, 25, 26, 6] rfl (by decide +kernel)) ggX8_readKind_X8_needs
set_option maxRecDepth 100000 in
theorem ggX8_readKind_X8_next : GoodIn wsX8_readKind wsX8_next := goodIn_r _ [32, 1, 12, 13, 2, 33, 34, 35, 36, 37, 14, 15, 16, 6, 17, 18, 19, 38, 39, 40, 24, 25, 26, 27, 28, 41, 42, 43, 44, 45, 46, 47, 48, 49, 50, 51, 52, 53, 54, 55, 56, 57, 58, 59, 60, 61, 62, 63, 64, 65, 66, 67, 68, 69, 70, 71, 72, 73] rfl (by decide +kernel)
set_option maxRecDepth 100000 in
theorem gX8_readKind_X8_next : GoodIn wsX8_readKind (wsV RX8 147 RX8 yX8_next wsX8_next) := goodIn_app (goodIn_r _ [29, 30, 31, 6] rfl (by decide +kernel)) ggX8_readKind_X8_next
set_option maxRecDepth 100000 in
theorem ggX8_readFresh_X8_lookedHouse : GoodIn wsX8_readFresh wsX8_lookedHouse := goodIn_r _ [7, 1, 8, 9, 10, 11, 6, 12, 13, 14, 15, 16, 17, 18, 19, 20, 21, 22, 23, 39, 40, 41, 42, 43, 44, 45, 46, 47, 48, 49, 50, 51, 52, 53, 54, 55, 56, 57, 58, 59, 60, 61, 62, 63, 64, 65, 66, 67, 68, 69, 70, 71] rfl (by decide +kernel)
set_option maxRecDepth 100000 in
theorem gX8_readFresh_X8_lookedHouse : GoodIn wsX8_readFresh (wsV RX8 150 RX8 yX8_lookedHouse wsX8_lookedHouse) := goodIn_app (goodIn_r _ [3, 4, 5, 6] rfl (by decide +kernel)) ggX8_readFresh_X8_lookedHouse
set_option maxRecDepth 100000 in
theorem ggX8_readFresh_X8_needs : GoodIn wsX8_readFresh wsX8_needs := goodIn_r _ [18, 1, 19, 20, 39, 40, 41, 42, 43, 44, 45, 46, 47, 48, 49, 50, 51, 52, 53, 54, 55, 56, 57, 58, 59, 60, 61, 62, 63, 64, 65, 66, 67, 68, 69, 70, 71] rfl (by decide +kernel)
set_option maxRecDepth 100000 in
theorem gX8_readFresh_X8_needs : GoodIn wsX8_readFresh (wsV RX8 139 RX8 yX8_needs wsX8_needs) := goodIn_app (goodIn_r _ [15, 16, 17, 6] rfl (by decide +kernel)) ggX8_readFresh_X8_needs
set_option maxRecDepth 100000 in
theorem ggX8_readFresh_X8_next : GoodIn wsX8_readFresh wsX8_next := goodIn_r _ [27, 1, 28, 19, 13, 29, 30, 31, 32, 14, 33, 34, 35, 6, 36, 37, 38, 21, 22, 23, 15, 16, 17, 18, 20, 39, 40, 41, 42, 43, 44, 45, 46, 47, 48, 49, 50, 51, 52, 53, 54, 55, 56, 57, 58, 59, 60, 61, 62, 63, 64, 65, 66, 67, 68, 69, 70, 71] rfl (by decide +kernel)
set_option maxRecDepth 100000 in
theorem gX8_readFresh_X8_next : GoodIn wsX8_readFresh (wsV RX8 147 RX8 yX8_next wsX8_next) := goodIn_app (goodIn_r _ [24, 25, 26, 6] rfl (by decide +kernel)) ggX8_readFresh_X8_next
set_option maxRecDepth 100000 in
theorem ggX8_readCan_X8_lookedDeed : GoodIn wsX8_readCan wsX8_lookedDeed := goodIn_r _ [8, 1, 9, 10, 11, 12, 7, 13, 2, 14, 15, 16, 17, 18, 19, 20, 21, 22, 23, 39, 40, 41, 42, 43, 44, 45, 46, 47, 48, 49, 50, 51, 52, 53, 54, 55, 56, 57, 58, 59, 60, 61, 62, 63, 64, 65, 66, 67, 68, 69, 70, 71] rfl (by decide +kernel)
set_option maxRecDepth 100000 in
theorem gX8_readCan_X8_lookedDeed : GoodIn wsX8_readCan (wsV RX8 153 RX8 yX8_lookedDeed wsX8_lookedDeed) := goodIn_app (goodIn_r _ [4, 5, 6, 7] rfl (by decide +kernel)) ggX8_readCan_X8_lookedDeed
set_option maxRecDepth 100000 in
theorem ggX8_readCan_X8_needs : GoodIn wsX8_readCan wsX8_needs := goodIn_r _ [18, 1, 19, 20, 39, 40, 41, 42, 43, 44, 45, 46, 47, 48, 49, 50, 51, 52, 53, 54, 55, 56, 57, 58, 59, 60, 61, 62, 63, 64, 65, 66, 67, 68, 69, 70, 71] rfl (by decide +kernel)
set_option maxRecDepth 100000 in
theorem gX8_readCan_X8_needs : GoodIn wsX8_readCan (wsV RX8 139 RX8 yX8_needs wsX8_needs) := goodIn_app (goodIn_r _ [15, 16, 17, 7] rfl (by decide +kernel)) ggX8_readCan_X8_needs
set_option maxRecDepth 100000 in
theorem ggX8_readCan_X8_next : GoodIn wsX8_readCan wsX8_next := goodIn_r _ [27, 1, 28, 19, 2, 29, 30, 31, 32, 14, 33, 34, 35, 7, 36, 37, 38, 21, 22, 23, 15, 16, 17, 18, 20, 39, 40, 41, 42, 43, 44, 45, 46, 47, 48, 49, 50, 51, 52, 53, 54, 55, 56, 57, 58, 59, 60, 61, 62, 63, 64, 65, 66, 67, 68, 69, 70, 71] rfl (by decide +kernel)
set_option maxRecDepth 100000 in
theorem gX8_readCan_X8_next : GoodIn wsX8_readCan (wsV RX8 147 RX8 yX8_next wsX8_next) := goodIn_app (goodIn_r _ [24, 25, 26, 7] rfl (by decide +kernel)) ggX8_readCan_X8_next
set_option maxRecDepth 100000 in
theorem ggX8_readOfHouse_X8_readFresh : GoodIn wsX8_readOfHouse wsX8_readFresh := goodIn_r _ [7, 1, 8, 9, 10, 11, 6, 12, 13, 14, 15, 16, 17, 18, 19, 20, 21, 22, 23, 24, 25, 26, 27, 28, 29, 30, 31, 32, 33, 34, 35, 36, 37, 38, 39, 40, 41, 42, 43, 77, 78, 79, 80, 81, 82, 83, 84, 85, 86, 87, 88, 89, 90, 91, 92, 93, 94, 95, 96, 97, 98, 99, 100, 101, 102, 103, 104, 105, 106, 107, 108, 109] rfl (by decide +kernel)
set_option maxRecDepth 100000 in
theorem gX8_readOfHouse_X8_readFresh : GoodIn wsX8_readOfHouse (wsV RX8 159 RX8 yX8_readFresh wsX8_readFresh) := goodIn_app (goodIn_r _ [3, 4, 5, 6] rfl (by decide +kernel)) ggX8_readOfHouse_X8_readFresh
set_option maxRecDepth 100000 in
theorem ggX8_readOfHouse_X8_readNumber : GoodIn wsX8_readOfHouse wsX8_readNumber := goodIn_r _ [47, 14, 15, 16, 6, 17, 1, 18, 19, 20, 21, 22, 23, 24, 25, 26, 27, 28, 29, 30, 31, 32, 33, 34, 35, 36, 37, 38, 39, 40, 41, 42, 43, 77, 78, 79, 80, 81, 82, 83, 84, 85, 86, 87, 88, 89, 90, 91, 92, 93, 94, 95, 96, 97, 98, 99, 100, 101, 102, 103, 104, 105, 106, 107, 108, 109] rfl (by decide +kernel)
set_option maxRecDepth 100000 in
theorem gX8_readOfHouse_X8_readNumber : GoodIn wsX8_readOfHouse (wsV RX8 162 RX8 yX8_readNumber wsX8_readNumber) := goodIn_app (goodIn_r _ [44, 45, 46, 6] rfl (by decide +kernel)) ggX8_readOfHouse_X8_readNumber
set_option maxRecDepth 100000 in
theorem ggX8_readOfHouse_X8_readCan : GoodIn wsX8_readOfHouse wsX8_readCan := goodIn_r _ [51, 1, 18, 2, 52, 53, 54, 6, 55, 56, 14, 15, 16, 17, 19, 20, 21, 22, 23, 24, 25, 26, 27, 28, 29, 30, 31, 32, 33, 34, 35, 36, 37, 38, 39, 40, 41, 42, 43, 77, 78, 79, 80, 81, 82, 83, 84, 85, 86, 87, 88, 89, 90, 91, 92, 93, 94, 95, 96, 97, 98, 99, 100, 101, 102, 103, 104, 105, 106, 107, 108, 109] rfl (by decide +kernel)
set_option maxRecDepth 100000 in
theorem gX8_readOfHouse_X8_readCan : GoodIn wsX8_readOfHouse (wsV RX8 165 RX8 yX8_readCan wsX8_readCan) := goodIn_app (goodIn_r _ [48, 49, 50, 6] rfl (by decide +kernel)) ggX8_readOfHouse_X8_readCan
set_option maxRecDepth 100000 in
theorem ggX8_readOfHouse_X8_readKind : GoodIn wsX8_readOfHouse wsX8_readKind := goodIn_r _ [60, 1, 18, 61, 62, 63, 6, 64, 65, 66, 67, 68, 33, 24, 38, 39, 40, 41, 42, 43, 69, 70, 71, 72, 20, 21, 22, 23, 25, 29, 30, 31, 32, 34, 35, 36, 37, 19, 26, 27, 28, 77, 78, 79, 80, 81, 82, 83, 84, 85, 86, 87, 88, 89, 90, 91, 92, 93, 94, 95, 96, 97, 98, 99, 100, 101, 102, 103, 104, 105, 106, 107, 108, 109] rfl (by decide +kernel)
set_option maxRecDepth 100000 in
theorem gX8_readOfHouse_X8_readKind : GoodIn wsX8_readOfHouse (wsV RX8 169 RX8 yX8_readKind wsX8_readKind) := goodIn_app (goodIn_r _ [57, 58, 59, 6] rfl (by decide +kernel)) ggX8_readOfHouse_X8_readKind
set_option maxRecDepth 100000 in
theorem ggX8_readOfHouse_X8_readADeed : GoodIn wsX8_readOfHouse wsX8_readADeed := goodIn_r _ [76, 52, 53, 54, 6, 55, 1, 56, 14, 15, 16, 17, 18, 19, 20, 21, 22, 23, 24, 25, 26, 27, 28, 29, 30, 31, 32, 33, 34, 35, 36, 37, 38, 39, 40, 41, 42, 43, 77, 78, 79, 80, 81, 82, 83, 84, 85, 86, 87, 88, 89, 90, 91, 92, 93, 94, 95, 96, 97, 98, 99, 100, 101, 102, 103, 104, 105, 106, 107, 108, 109] rfl (by decide +kernel)
set_option maxRecDepth 100000 in
theorem gX8_readOfHouse_X8_readADeed : GoodIn wsX8_readOfHouse (wsV RX8 172 RX8 yX8_readADeed wsX8_readADeed) := goodIn_app (goodIn_r _ [73, 74, 75, 6] rfl (by decide +kernel)) ggX8_readOfHouse_X8_readADeed
set_option maxRecDepth 100000 in
theorem ggX8_readDeep_X8_looked : GoodIn wsX8_readDeep wsX8_looked := goodIn_r _ [6, 1, 7, 8, 9, 10, 11, 5, 12, 13, 14, 15, 16, 17, 33, 34, 35, 36, 37, 38, 39, 40, 41, 42, 43, 44, 45, 46, 47, 48, 49, 50, 51, 52, 53, 54, 55, 56, 57, 58, 59, 60, 61, 62, 63, 64, 65] rfl (by decide +kernel)
set_option maxRecDepth 100000 in
theorem gX8_readDeep_X8_looked : GoodIn wsX8_readDeep (wsV RX8 143 RX8 yX8_looked wsX8_looked) := goodIn_app (goodIn_r _ [2, 3, 4, 5] rfl (by decide +kernel)) ggX8_readDeep_X8_looked
set_option maxRecDepth 100000 in
theorem ggX8_readDeep_X8_needs : GoodIn wsX8_readDeep wsX8_needs := goodIn_r _ [12, 1, 13, 14, 33, 34, 35, 36, 37, 38, 39, 40, 41, 42, 43, 44, 45, 46, 47, 48, 49, 50, 51, 52, 53, 54, 55, 56, 57, 58, 59, 60, 61, 62, 63, 64, 65] rfl (by decide +kernel)
set_option maxRecDepth 100000 in
theorem gX8_readDeep_X8_needs : GoodIn wsX8_readDeep (wsV RX8 139 RX8 yX8_needs wsX8_needs) := goodIn_app (goodIn_r _ [9, 10, 11, 5] rfl (by decide +kernel)) ggX8_readDeep_X8_needs
set_option maxRecDepth 100000 in
theorem ggX8_readDeep_X8_next : GoodIn wsX8_readDeep wsX8_next := goodIn_r _ [21, 1, 22, 13, 7, 23, 24, 25, 26, 8, 27, 28, 29, 5, 30, 31, 32, 15, 16, 17, 9, 10, 11, 12, 14, 33, 34, 35, 36, 37, 38, 39, 40, 41, 42, 43, 44, 45, 46, 47, 48, 49, 50, 51, 52, 53, 54, 55, 56, 57, 58, 59, 60, 61, 62, 63, 64, 65] rfl (by decide +kernel)
set_option maxRecDepth 100000 in
theorem gX8_readDeep_X8_next : GoodIn wsX8_readDeep (wsV RX8 147 RX8 yX8_next wsX8_next) := goodIn_app (goodIn_r _ [18, 19, 20, 5] rfl (by decide +kernel)) ggX8_readDeep_X8_next
set_option maxRecDepth 100000 in
theorem ggX8_readLineOf_X8_readNumber : GoodIn wsX8_readLineOf wsX8_readNumber := goodIn_r _ [10, 11, 12, 13, 9, 14, 15, 16, 17, 18, 19, 20, 21, 22, 23, 24, 25, 26, 27, 28, 29, 30, 31, 32, 33, 34, 35, 36, 37, 38, 39, 40, 41, 93, 94, 95, 96, 97, 98, 99, 100, 101, 102, 103, 104, 105, 106, 107, 108, 109, 110, 111, 112, 113, 114, 115, 116, 117, 118, 119, 120, 121, 122, 123, 124, 125] rfl (by decide +kernel)
set_option maxRecDepth 100000 in
theorem gX8_readLineOf_X8_readNumber : GoodIn wsX8_readLineOf (wsV RX8 162 RX8 yX8_readNumber wsX8_readNumber) := goodIn_app (goodIn_r _ [6, 7, 8, 9] rfl (by decide +kernel)) ggX8_readLineOf_X8_readNumber
set_option maxRecDepth 100000 in
theorem ggX8_readLineOf_X8_readAHouse : GoodIn wsX8_readLineOf wsX8_readAHouse := goodIn_r _ [45, 46, 47, 48, 9, 49, 15, 50, 11, 12, 13, 14, 16, 17, 18, 19, 20, 21, 22, 23, 24, 25, 26, 27, 28, 29, 30, 31, 32, 33, 34, 35, 36, 37, 38, 39, 40, 41, 93, 94, 95, 96, 97, 98, 99, 100, 101, 102, 103, 104, 105, 106, 107, 108, 109, 110, 111, 112, 113, 114, 115, 116, 117, 118, 119, 120, 121, 122, 123, 124, 125] rfl (by decide +kernel)
set_option maxRecDepth 100000 in
theorem gX8_readLineOf_X8_readAHouse : GoodIn wsX8_readLineOf (wsV RX8 175 RX8 yX8_readAHouse wsX8_readAHouse) := goodIn_app (goodIn_r _ [42, 43, 44, 9] rfl (by decide +kernel)) ggX8_readLineOf_X8_readAHouse
set_option maxRecDepth 100000 in
theorem ggX8_readLineOf_X8_readKind : GoodIn wsX8_readLineOf wsX8_readKind := goodIn_r _ [54, 15, 16, 55, 56, 57, 9, 58, 59, 60, 61, 62, 31, 22, 36, 37, 38, 39, 40, 41, 63, 64, 65, 66, 18, 19, 20, 21, 23, 27, 28, 29, 30, 32, 33, 34, 35, 17, 24, 25, 26, 93, 94, 95, 96, 97, 98, 99, 100, 101, 102, 103, 104, 105, 106, 107, 108, 109, 110, 111, 112, 113, 114, 115, 116, 117, 118, 119, 120, 121, 122, 123, 124, 125] rfl (by decide +kernel)
set_option maxRecDepth 100000 in
theorem gX8_readLineOf_X8_readKind : GoodIn wsX8_readLineOf (wsV RX8 169 RX8 yX8_readKind wsX8_readKind) := goodIn_app (goodIn_r _ [51, 52, 53, 9] rfl (by decide +kernel)) ggX8_readLineOf_X8_readKind
set_option maxRecDepth 100000 in
theorem ggX8_readLineOf_X8_readDeep : GoodIn wsX8_readLineOf wsX8_readDeep := goodIn_r _ [70, 15, 11, 12, 13, 9, 14, 16, 17, 18, 19, 20, 21, 22, 23, 24, 25, 26, 27, 28, 29, 30, 31, 32, 33, 34, 35, 36, 37, 38, 39, 40, 41, 93, 94, 95, 96, 97, 98, 99, 100, 101, 102, 103, 104, 105, 106, 107, 108, 109, 110, 111, 112, 113, 114, 115, 116, 117, 118, 119, 120, 121, 122, 123, 124, 125] rfl (by decide +kernel)
set_option maxRecDepth 100000 in
theorem gX8_readLineOf_X8_readDeep : GoodIn wsX8_readLineOf (wsV RX8 178 RX8 yX8_readDeep wsX8_readDeep) := goodIn_app (goodIn_r _ [67, 68, 69, 9] rfl (by decide +kernel)) ggX8_readLineOf_X8_readDeep
set_option maxRecDepth 100000 in
theorem ggX8_readLineOf_X8_readADeed : GoodIn wsX8_readLineOf wsX8_readADeed := goodIn_r _ [74, 75, 76, 77, 9, 78, 15, 79, 11, 12, 13, 14, 16, 17, 18, 19, 20, 21, 22, 23, 24, 25, 26, 27, 28, 29, 30, 31, 32, 33, 34, 35, 36, 37, 38, 39, 40, 41, 93, 94, 95, 96, 97, 98, 99, 100, 101, 102, 103, 104, 105, 106, 107, 108, 109, 110, 111, 112, 113, 114, 115, 116, 117, 118, 119, 120, 121, 122, 123, 124, 125] rfl (by decide +kernel)
set_option maxRecDepth 100000 in
theorem gX8_readLineOf_X8_readADeed : GoodIn wsX8_readLineOf (wsV RX8 172 RX8 yX8_readADeed wsX8_readADeed) := goodIn_app (goodIn_r _ [71, 72, 73, 9] rfl (by decide +kernel)) ggX8_readLineOf_X8_readADeed
set_option maxRecDepth 100000 in
theorem ggX8_readLineOf_X8_readOfHouse : GoodIn wsX8_readLineOf wsX8_readOfHouse := goodIn_r _ [83, 15, 5, 84, 85, 86, 9, 87, 88, 46, 47, 48, 49, 50, 11, 12, 13, 14, 16, 17, 18, 19, 20, 21, 22, 23, 24, 25, 26, 27, 28, 29, 30, 31, 32, 33, 34, 35, 36, 37, 38, 39, 40, 41, 6, 7, 8, 10, 89, 90, 91, 92, 75, 76, 77, 78, 79, 51, 52, 53, 54, 55, 56, 57, 58, 59, 60, 61, 62, 63, 64, 65, 66, 71, 72, 73, 74, 93, 94, 95, 96, 97, 98, 99, 100, 101, 102, 103, 104, 105, 106, 107, 108, 109, 110, 111, 112, 113, 114, 115, 116, 117, 118, 119, 120, 121, 122, 123, 124, 125] rfl (by decide +kernel)
set_option maxRecDepth 100000 in
theorem gX8_readLineOf_X8_readOfHouse : GoodIn wsX8_readLineOf (wsV RX8 181 RX8 yX8_readOfHouse wsX8_readOfHouse) := goodIn_app (goodIn_r _ [80, 81, 82, 9] rfl (by decide +kernel)) ggX8_readLineOf_X8_readOfHouse
set_option maxRecDepth 100000 in
theorem ggX8_readLine_X8_lineNow : GoodIn wsX8_readLine wsX8_lineNow := goodIn_r _ [10, 11, 12, 13, 9, 14, 15, 16, 17, 18, 19, 20, 21, 22, 23, 24, 25, 26, 27, 28, 29, 30, 106, 107, 108, 109, 110, 111, 112, 113, 114, 115, 116, 117, 118, 119, 120, 121, 122, 123, 124, 125, 126, 127, 128, 129, 130, 131, 132, 133, 134, 135, 136, 137, 138] rfl (by decide +kernel)
set_option maxRecDepth 100000 in
theorem gX8_readLine_X8_lineNow : GoodIn wsX8_readLine (wsV RX8 184 RX8 yX8_lineNow wsX8_lineNow) := goodIn_app (goodIn_r _ [6, 7, 8, 9] rfl (by decide +kernel)) ggX8_readLine_X8_lineNow
set_option maxRecDepth 100000 in
theorem ggX8_readLine_X8_needs : GoodIn wsX8_readLine wsX8_needs := goodIn_r _ [34, 5, 16, 35, 106, 107, 108, 109, 110, 111, 112, 113, 114, 115, 116, 117, 118, 119, 120, 121, 122, 123, 124, 125, 126, 127, 128, 129, 130, 131, 132, 133, 134, 135, 136, 137, 138] rfl (by decide +kernel)
set_option maxRecDepth 100000 in
theorem gX8_readLine_X8_needs : GoodIn wsX8_readLine (wsV RX8 139 RX8 yX8_needs wsX8_needs) := goodIn_app (goodIn_r _ [31, 32, 33, 9] rfl (by decide +kernel)) ggX8_readLine_X8_needs
set_option maxRecDepth 100000 in
theorem ggX8_readLine_X8_next : GoodIn wsX8_readLine wsX8_next := goodIn_r _ [39, 5, 15, 16, 1, 40, 41, 42, 43, 44, 17, 18, 19, 9, 20, 21, 22, 45, 46, 47, 31, 32, 33, 34, 35, 106, 107, 108, 109, 110, 111, 112, 113, 114, 115, 116, 117, 118, 119, 120, 121, 122, 123, 124, 125, 126, 127, 128, 129, 130, 131, 132, 133, 134, 135, 136, 137, 138] rfl (by decide +kernel)
set_option maxRecDepth 100000 in
theorem gX8_readLine_X8_next : GoodIn wsX8_readLine (wsV RX8 147 RX8 yX8_next wsX8_next) := goodIn_app (goodIn_r _ [36, 37, 38, 9] rfl (by decide +kernel)) ggX8_readLine_X8_next
set_option maxRecDepth 100000 in
theorem ggX8_readLine_X8_readLineOf : GoodIn wsX8_readLine wsX8_readLineOf := goodIn_r _ [51, 52, 53, 54, 2, 3, 55, 56, 57, 9, 58, 59, 60, 61, 62, 5, 1, 44, 31, 32, 33, 34, 16, 35, 45, 46, 47, 36, 37, 38, 39, 15, 40, 41, 42, 43, 17, 18, 19, 20, 21, 22, 63, 64, 65, 66, 67, 68, 69, 70, 71, 72, 73, 74, 75, 76, 77, 78, 79, 11, 12, 13, 14, 23, 24, 25, 26, 80, 81, 82, 83, 84, 85, 86, 87, 88, 89, 90, 91, 92, 93, 94, 95, 96, 97, 98, 99, 100, 101, 102, 103, 104, 105, 106, 107, 108, 109, 110, 111, 112, 113, 114, 115, 116, 117, 118, 119, 120, 121, 122, 123, 124, 125, 126, 127, 128, 129, 130, 131, 132, 133, 134, 135, 136, 137, 138] rfl (by decide +kernel)
set_option maxRecDepth 100000 in
theorem gX8_readLine_X8_readLineOf : GoodIn wsX8_readLine (wsV RX8 187 RX8 yX8_readLineOf wsX8_readLineOf) := goodIn_app (goodIn_r _ [48, 49, 50, 9] rfl (by decide +kernel)) ggX8_readLine_X8_readLineOf
set_option maxRecDepth 100000 in
theorem ggX8_text_X8_firstDraft : GoodIn wsX8_text wsX8_firstDraft := goodIn_r _ [14, 15, 16, 5, 17, 18, 7, 4, 6, 124, 125, 126, 127, 128, 129, 130, 131, 132, 133, 134, 135, 136, 137, 138, 139, 140, 141, 142, 143, 144, 145, 146, 147, 148, 149, 150, 151, 152, 153, 154, 155, 156] rfl (by decide +kernel)
set_option maxRecDepth 100000 in
theorem gX8_text_X8_firstDraft : GoodIn wsX8_text (wsV RX8 53 RX8 yX8_firstDraft wsX8_firstDraft) := goodIn_app (goodIn_r _ [10, 11, 12, 13] rfl (by decide +kernel)) ggX8_text_X8_firstDraft
set_option maxRecDepth 100000 in
theorem ggX8_text_X8_next : GoodIn wsX8_text wsX8_next := goodIn_r _ [22, 1, 2, 23, 3, 24, 25, 26, 27, 28, 29, 30, 31, 13, 32, 8, 33, 34, 35, 36, 37, 38, 39, 40, 9, 124, 125, 126, 127, 128, 129, 130, 131, 132, 133, 134, 135, 136, 137, 138, 139, 140, 141, 142, 143, 144, 145, 146, 147, 148, 149, 150, 151, 152, 153, 154, 155, 156] rfl (by decide +kernel)
set_option maxRecDepth 100000 in
theorem gX8_text_X8_next : GoodIn wsX8_text (wsV RX8 147 RX8 yX8_next wsX8_next) := goodIn_app (goodIn_r _ [19, 20, 21, 13] rfl (by decide +kernel)) ggX8_text_X8_next
set_option maxRecDepth 100000 in
theorem ggX8_text_X8_readLine : GoodIn wsX8_text wsX8_readLine := goodIn_r _ [44, 3, 7, 15, 18, 1, 45, 46, 47, 13, 48, 49, 50, 51, 52, 2, 23, 29, 30, 31, 32, 8, 33, 53, 54, 55, 56, 57, 58, 59, 60, 37, 38, 39, 40, 9, 19, 20, 21, 22, 24, 25, 26, 27, 28, 34, 35, 36, 61, 62, 63, 64, 5, 17, 65, 66, 67, 68, 69, 70, 71, 72, 73, 74, 75, 76, 77, 78, 79, 80, 81, 4, 82, 83, 84, 85, 86, 87, 88, 89, 90, 91, 92, 93, 94, 95, 96, 97, 98, 99, 100, 101, 6, 102, 103, 104, 105, 106, 107, 108, 109, 16, 110, 111, 112, 113, 124, 125, 126, 127, 128, 129, 130, 131, 132, 133, 134, 135, 136, 137, 138, 139, 140, 141, 142, 143, 144, 145, 146, 147, 148, 149, 150, 151, 152, 153, 154, 155, 156] rfl (by decide +kernel)
set_option maxRecDepth 100000 in
theorem gX8_text_X8_readLine : GoodIn wsX8_text (wsV RX8 190 RX8 yX8_readLine wsX8_readLine) := goodIn_app (goodIn_r _ [41, 42, 43, 13] rfl (by decide +kernel)) ggX8_text_X8_readLine
set_option maxRecDepth 100000 in
theorem ggX8_text_X8_needs : GoodIn wsX8_text wsX8_needs := goodIn_r _ [40, 1, 23, 9, 124, 125, 126, 127, 128, 129, 130, 131, 132, 133, 134, 135, 136, 137, 138, 139, 140, 141, 142, 143, 144, 145, 146, 147, 148, 149, 150, 151, 152, 153, 154, 155, 156] rfl (by decide +kernel)
set_option maxRecDepth 100000 in
theorem gX8_text_X8_needs : GoodIn wsX8_text (wsV RX8 139 RX8 yX8_needs wsX8_needs) := goodIn_app (goodIn_r _ [37, 38, 39, 13] rfl (by decide +kernel)) ggX8_text_X8_needs
set_option maxRecDepth 100000 in
theorem ggX8_text_X8_keepDraft : GoodIn wsX8_text wsX8_keepDraft := goodIn_r _ [117, 118, 15, 5, 119, 17, 120, 7, 121, 122, 65, 123, 124, 125, 126, 127, 128, 129, 130, 131, 132, 133, 134, 135, 136, 137, 138, 139, 140, 141, 142, 143, 144, 145, 146, 147, 148, 149, 150, 151, 152, 153, 154, 155, 156] rfl (by decide +kernel)
set_option maxRecDepth 100000 in
theorem gX8_text_X8_keepDraft : GoodIn wsX8_text (wsV RX8 56 RX8 yX8_keepDraft wsX8_keepDraft) := goodIn_app (goodIn_r _ [114, 115, 116, 13] rfl (by decide +kernel)) ggX8_text_X8_keepDraft
set_option maxRecDepth 100000 in
theorem ggX8_isHouse_X8_in : GoodIn wsX8_isHouse wsX8_in := goodIn_r _ [5] rfl (by decide +kernel)
set_option maxRecDepth 100000 in
theorem gX8_isHouse_X8_in : GoodIn wsX8_isHouse (va_wsS RX8 90 yX8_in wsX8_in) := goodIn_app (goodIn_r _ [2, 3, 4] rfl (by decide +kernel)) ggX8_isHouse_X8_in
set_option maxRecDepth 100000 in
theorem ggX8_isDeed_X8_in : GoodIn wsX8_isDeed wsX8_in := goodIn_r _ [5] rfl (by decide +kernel)
set_option maxRecDepth 100000 in
theorem gX8_isDeed_X8_in : GoodIn wsX8_isDeed (va_wsS RX8 90 yX8_in wsX8_in) := goodIn_app (goodIn_r _ [2, 3, 4] rfl (by decide +kernel)) ggX8_isDeed_X8_in
set_option maxRecDepth 100000 in
theorem ggX8_isKind_X8_in : GoodIn wsX8_isKind wsX8_in := goodIn_r _ [5] rfl (by decide +kernel)
set_option maxRecDepth 100000 in
theorem gX8_isKind_X8_in : GoodIn wsX8_isKind (va_wsS RX8 90 yX8_in wsX8_in) := goodIn_app (goodIn_r _ [2, 3, 4] rfl (by decide +kernel)) ggX8_isKind_X8_in
set_option maxRecDepth 100000 in
theorem ggX8_isDeep_X8_in : GoodIn wsX8_isDeep wsX8_in := goodIn_r _ [5] rfl (by decide +kernel)
set_option maxRecDepth 100000 in
theorem gX8_isDeep_X8_in : GoodIn wsX8_isDeep (va_wsS RX8 90 yX8_in wsX8_in) := goodIn_app (goodIn_r _ [2, 3, 4] rfl (by decide +kernel)) ggX8_isDeep_X8_in
set_option maxRecDepth 100000 in
theorem ggX8_rule_X8_flag : GoodIn wsX8_rule wsX8_flag := goodIn_r _ [10] rfl (by decide +kernel)
set_option maxRecDepth 100000 in
theorem gX8_rule_X8_flag : GoodIn wsX8_rule (va_wsS RX8 197 yX8_flag wsX8_flag) := goodIn_app (goodIn_r _ [7, 8, 9] rfl (by decide +kernel)) ggX8_rule_X8_flag
set_option maxRecDepth 100000 in
theorem ggX8_rule_X8_in : GoodIn wsX8_rule wsX8_in := goodIn_r _ [13] rfl (by decide +kernel)
set_option maxRecDepth 100000 in
theorem gX8_rule_X8_in : GoodIn wsX8_rule (va_wsS RX8 90 yX8_in wsX8_in) := goodIn_app (goodIn_r _ [11, 12, 9] rfl (by decide +kernel)) ggX8_rule_X8_in
set_option maxRecDepth 100000 in
theorem ggX8_house_X8_isHouse : GoodIn wsX8_house wsX8_isHouse := goodIn_r _ [7, 8, 9, 10, 6, 11, 17, 18, 19, 20, 21, 22, 23, 24, 25, 26, 27, 28, 29, 30, 31, 32, 33, 34, 35, 36, 37, 38, 39, 40, 41, 42, 43, 44, 45, 46, 47, 48, 49] rfl (by decide +kernel)
set_option maxRecDepth 100000 in
theorem gX8_house_X8_isHouse : GoodIn wsX8_house (wsV RX8 205 RX8 yX8_isHouse wsX8_isHouse) := goodIn_app (goodIn_r _ [3, 4, 5, 6] rfl (by decide +kernel)) ggX8_house_X8_isHouse
set_option maxRecDepth 100000 in
theorem ggX8_house_X8_in : GoodIn wsX8_house wsX8_in := goodIn_r _ [11] rfl (by decide +kernel)
set_option maxRecDepth 100000 in
theorem gX8_house_X8_in : GoodIn wsX8_house (va_wsS RX8 90 yX8_in wsX8_in) := goodIn_app (goodIn_r _ [9, 10, 6] rfl (by decide +kernel)) ggX8_house_X8_in
set_option maxRecDepth 100000 in
theorem ggX8_house_X8_isDeed : GoodIn wsX8_house wsX8_isDeed := goodIn_r _ [15, 16, 9, 10, 6, 11, 17, 18, 19, 20, 21, 22, 23, 24, 25, 26, 27, 28, 29, 30, 31, 32, 33, 34, 35, 36, 37, 38, 39, 40, 41, 42, 43, 44, 45, 46, 47, 48, 49] rfl (by decide +kernel)
set_option maxRecDepth 100000 in
theorem gX8_house_X8_isDeed : GoodIn wsX8_house (wsV RX8 209 RX8 yX8_isDeed wsX8_isDeed) := goodIn_app (goodIn_r _ [12, 13, 14, 6] rfl (by decide +kernel)) ggX8_house_X8_isDeed
set_option maxRecDepth 100000 in
theorem ggX8_cost_X8_isDeed : GoodIn wsX8_cost wsX8_isDeed := goodIn_r _ [6, 7, 8, 9, 5, 10, 11, 12, 13, 14, 15, 16, 17, 18, 19, 20, 21, 22, 23, 24, 25, 26, 27, 28, 29, 30, 31, 32, 33, 34, 35, 36, 37, 38, 39, 40, 41, 42, 43] rfl (by decide +kernel)
set_option maxRecDepth 100000 in
theorem gX8_cost_X8_isDeed : GoodIn wsX8_cost (wsV RX8 209 RX8 yX8_isDeed wsX8_isDeed) := goodIn_app (goodIn_r _ [2, 3, 4, 5] rfl (by decide +kernel)) ggX8_cost_X8_isDeed
set_option maxRecDepth 100000 in
theorem ggX8_vow_X8_in : GoodIn wsX8_vow wsX8_in := goodIn_r _ [6] rfl (by decide +kernel)
set_option maxRecDepth 100000 in
theorem gX8_vow_X8_in : GoodIn wsX8_vow (va_wsS RX8 90 yX8_in wsX8_in) := goodIn_app (goodIn_r _ [3, 4, 5] rfl (by decide +kernel)) ggX8_vow_X8_in
set_option maxRecDepth 100000 in
theorem ggX8_want_X8_in : GoodIn wsX8_want wsX8_in := goodIn_r _ [5] rfl (by decide +kernel)
set_option maxRecDepth 100000 in
theorem gX8_want_X8_in : GoodIn wsX8_want (va_wsS RX8 90 yX8_in wsX8_in) := goodIn_app (goodIn_r _ [2, 3, 4] rfl (by decide +kernel)) ggX8_want_X8_in
set_option maxRecDepth 100000 in
theorem ggX8_fund_X8_isHouse : GoodIn wsX8_fund wsX8_isHouse := goodIn_r _ [6, 7, 8, 9, 5, 10, 16, 17, 18, 19, 20, 21, 22, 23, 24, 25, 26, 27, 28, 29, 30, 31, 32, 33, 34, 35, 36, 37, 38, 39, 40, 41, 42, 43, 44, 45, 46, 47, 48] rfl (by decide +kernel)
set_option maxRecDepth 100000 in
theorem gX8_fund_X8_isHouse : GoodIn wsX8_fund (wsV RX8 205 RX8 yX8_isHouse wsX8_isHouse) := goodIn_app (goodIn_r _ [2, 3, 4, 5] rfl (by decide +kernel)) ggX8_fund_X8_isHouse
set_option maxRecDepth 100000 in
theorem ggX8_fund_X8_in : GoodIn wsX8_fund wsX8_in := goodIn_r _ [10] rfl (by decide +kernel)
set_option maxRecDepth 100000 in
theorem gX8_fund_X8_in : GoodIn wsX8_fund (va_wsS RX8 90 yX8_in wsX8_in) := goodIn_app (goodIn_r _ [8, 9, 5] rfl (by decide +kernel)) ggX8_fund_X8_in
set_option maxRecDepth 100000 in
theorem ggX8_fund_X8_becomes : GoodIn wsX8_fund wsX8_becomes := goodIn_r _ [14, 15, 16, 17, 18, 19, 20, 21, 22, 23, 24, 25, 26, 27, 28, 29, 30, 31, 32, 33, 34, 35, 36, 37, 38, 39, 40, 41, 42, 43, 44, 45, 46, 47, 48] rfl (by decide +kernel)
set_option maxRecDepth 100000 in
theorem gX8_fund_X8_becomes : GoodIn wsX8_fund (wsV RX8 214 RX8 yX8_becomes wsX8_becomes) := goodIn_app (goodIn_r _ [11, 12, 13, 5] rfl (by decide +kernel)) ggX8_fund_X8_becomes
set_option maxRecDepth 100000 in
theorem ggX8_can_X8_isHouse : GoodIn wsX8_can wsX8_isHouse := goodIn_r _ [6, 7, 8, 9, 5, 10, 16, 17, 18, 19, 20, 21, 22, 23, 24, 25, 26, 27, 28, 29, 30, 31, 32, 33, 34, 35, 36, 37, 38, 39, 40, 41, 42, 43, 44, 45, 46, 47, 48] rfl (by decide +kernel)
set_option maxRecDepth 100000 in
theorem gX8_can_X8_isHouse : GoodIn wsX8_can (wsV RX8 205 RX8 yX8_isHouse wsX8_isHouse) := goodIn_app (goodIn_r _ [2, 3, 4, 5] rfl (by decide +kernel)) ggX8_can_X8_isHouse
set_option maxRecDepth 100000 in
theorem ggX8_can_X8_isDeed : GoodIn wsX8_can wsX8_isDeed := goodIn_r _ [14, 15, 8, 9, 5, 10, 16, 17, 18, 19, 20, 21, 22, 23, 24, 25, 26, 27, 28, 29, 30, 31, 32, 33, 34, 35, 36, 37, 38, 39, 40, 41, 42, 43, 44, 45, 46, 47, 48] rfl (by decide +kernel)
set_option maxRecDepth 100000 in
theorem gX8_can_X8_isDeed : GoodIn wsX8_can (wsV RX8 209 RX8 yX8_isDeed wsX8_isDeed) := goodIn_app (goodIn_r _ [11, 12, 13, 5] rfl (by decide +kernel)) ggX8_can_X8_isDeed
set_option maxRecDepth 100000 in
theorem ggX8_lawyer_X8_isHouse : GoodIn wsX8_lawyer wsX8_isHouse := goodIn_r _ [5, 6, 7, 8, 4, 9, 18, 19, 20, 21, 22, 23, 24, 25, 26, 27, 28, 29, 30, 31, 32, 33, 34, 35, 36, 37, 38, 39, 40, 41, 42, 43, 44, 45, 46, 47, 48, 49, 50] rfl (by decide +kernel)
set_option maxRecDepth 100000 in
theorem gX8_lawyer_X8_isHouse : GoodIn wsX8_lawyer (wsV RX8 205 RX8 yX8_isHouse wsX8_isHouse) := goodIn_app (goodIn_r _ [1, 2, 3, 4] rfl (by decide +kernel)) ggX8_lawyer_X8_isHouse
set_option maxRecDepth 100000 in
theorem ggX8_lawyer_X8_flag : GoodIn wsX8_lawyer wsX8_flag := goodIn_r _ [12] rfl (by decide +kernel)
set_option maxRecDepth 100000 in
theorem gX8_lawyer_X8_flag : GoodIn wsX8_lawyer (va_wsS RX8 197 yX8_flag wsX8_flag) := goodIn_app (goodIn_r _ [10, 11, 4] rfl (by decide +kernel)) ggX8_lawyer_X8_flag
set_option maxRecDepth 100000 in
theorem ggX8_lawyer_X8_becomes : GoodIn wsX8_lawyer wsX8_becomes := goodIn_r _ [16, 17, 18, 19, 20, 21, 22, 23, 24, 25, 26, 27, 28, 29, 30, 31, 32, 33, 34, 35, 36, 37, 38, 39, 40, 41, 42, 43, 44, 45, 46, 47, 48, 49, 50] rfl (by decide +kernel)
set_option maxRecDepth 100000 in
theorem gX8_lawyer_X8_becomes : GoodIn wsX8_lawyer (wsV RX8 214 RX8 yX8_becomes wsX8_becomes) := goodIn_app (goodIn_r _ [13, 14, 15, 4] rfl (by decide +kernel)) ggX8_lawyer_X8_becomes
set_option maxRecDepth 100000 in
theorem ggX8_habit_X8_isHouse : GoodIn wsX8_habit wsX8_isHouse := goodIn_r _ [7, 8, 9, 10, 6, 11, 25, 26, 27, 28, 29, 30, 31, 32, 33, 34, 35, 36, 37, 38, 39, 40, 41, 42, 43, 44, 45, 46, 47, 48, 49, 50, 51, 52, 53, 54, 55, 56, 57] rfl (by decide +kernel)
set_option maxRecDepth 100000 in
theorem gX8_habit_X8_isHouse : GoodIn wsX8_habit (wsV RX8 205 RX8 yX8_isHouse wsX8_isHouse) := goodIn_app (goodIn_r _ [3, 4, 5, 6] rfl (by decide +kernel)) ggX8_habit_X8_isHouse
set_option maxRecDepth 100000 in
theorem ggX8_habit_X8_isKind : GoodIn wsX8_habit wsX8_isKind := goodIn_r _ [14, 15, 9, 10, 6, 11] rfl (by decide +kernel)
set_option maxRecDepth 100000 in
theorem gX8_habit_X8_isKind : GoodIn wsX8_habit (va_wsS RX8 217 yX8_isKind wsX8_isKind) := goodIn_app (goodIn_r _ [12, 13, 6] rfl (by decide +kernel)) ggX8_habit_X8_isKind
set_option maxRecDepth 100000 in
theorem ggX8_habit_X8_isDeed : GoodIn wsX8_habit wsX8_isDeed := goodIn_r _ [19, 20, 9, 10, 6, 11, 25, 26, 27, 28, 29, 30, 31, 32, 33, 34, 35, 36, 37, 38, 39, 40, 41, 42, 43, 44, 45, 46, 47, 48, 49, 50, 51, 52, 53, 54, 55, 56, 57] rfl (by decide +kernel)
set_option maxRecDepth 100000 in
theorem gX8_habit_X8_isDeed : GoodIn wsX8_habit (wsV RX8 209 RX8 yX8_isDeed wsX8_isDeed) := goodIn_app (goodIn_r _ [16, 17, 18, 6] rfl (by decide +kernel)) ggX8_habit_X8_isDeed
set_option maxRecDepth 100000 in
theorem ggX8_habit_X8_in : GoodIn wsX8_habit wsX8_in := goodIn_r _ [11] rfl (by decide +kernel)
set_option maxRecDepth 100000 in
theorem gX8_habit_X8_in : GoodIn wsX8_habit (va_wsS RX8 90 yX8_in wsX8_in) := goodIn_app (goodIn_r _ [9, 10, 6] rfl (by decide +kernel)) ggX8_habit_X8_in
set_option maxRecDepth 100000 in
theorem ggX8_habit_X8_becomes : GoodIn wsX8_habit wsX8_becomes := goodIn_r _ [24, 2, 25, 26, 27, 28, 29, 30, 31, 32, 33, 34, 35, 36, 37, 38, 39, 40, 41, 42, 43, 44, 45, 46, 47, 48, 49, 50, 51, 52, 53, 54, 55, 56, 57] rfl (by decide +kernel)
set_option maxRecDepth 100000 in
theorem gX8_habit_X8_becomes : GoodIn wsX8_habit (wsV RX8 214 RX8 yX8_becomes wsX8_becomes) := goodIn_app (goodIn_r _ [21, 22, 23, 6] rfl (by decide +kernel)) ggX8_habit_X8_becomes
set_option maxRecDepth 100000 in
theorem ggX8_vows_X8_isHouse : GoodIn wsX8_vows wsX8_isHouse := goodIn_r _ [6, 7, 8, 9, 5, 10, 24, 25, 26, 27, 28, 29, 30, 31, 32, 33, 34, 35, 36, 37, 38, 39, 40, 41, 42, 43, 44, 45, 46, 47, 48, 49, 50, 51, 52, 53, 54, 55, 56] rfl (by decide +kernel)
set_option maxRecDepth 100000 in
theorem gX8_vows_X8_isHouse : GoodIn wsX8_vows (wsV RX8 205 RX8 yX8_isHouse wsX8_isHouse) := goodIn_app (goodIn_r _ [2, 3, 4, 5] rfl (by decide +kernel)) ggX8_vows_X8_isHouse
set_option maxRecDepth 100000 in
theorem ggX8_vows_X8_isKind : GoodIn wsX8_vows wsX8_isKind := goodIn_r _ [13, 14, 8, 9, 5, 10] rfl (by decide +kernel)
set_option maxRecDepth 100000 in
theorem gX8_vows_X8_isKind : GoodIn wsX8_vows (va_wsS RX8 217 yX8_isKind wsX8_isKind) := goodIn_app (goodIn_r _ [11, 12, 5] rfl (by decide +kernel)) ggX8_vows_X8_isKind
set_option maxRecDepth 100000 in
theorem ggX8_vows_X8_isDeep : GoodIn wsX8_vows wsX8_isDeep := goodIn_r _ [17, 18, 8, 9, 5, 10] rfl (by decide +kernel)
set_option maxRecDepth 100000 in
theorem gX8_vows_X8_isDeep : GoodIn wsX8_vows (va_wsS RX8 222 yX8_isDeep wsX8_isDeep) := goodIn_app (goodIn_r _ [15, 16, 5] rfl (by decide +kernel)) ggX8_vows_X8_isDeep
set_option maxRecDepth 100000 in
theorem ggX8_vows_X8_isDeed : GoodIn wsX8_vows wsX8_isDeed := goodIn_r _ [22, 23, 8, 9, 5, 10, 24, 25, 26, 27, 28, 29, 30, 31, 32, 33, 34, 35, 36, 37, 38, 39, 40, 41, 42, 43, 44, 45, 46, 47, 48, 49, 50, 51, 52, 53, 54, 55, 56] rfl (by decide +kernel)
set_option maxRecDepth 100000 in
theorem gX8_vows_X8_isDeed : GoodIn wsX8_vows (wsV RX8 209 RX8 yX8_isDeed wsX8_isDeed) := goodIn_app (goodIn_r _ [19, 20, 21, 5] rfl (by decide +kernel)) ggX8_vows_X8_isDeed
set_option maxRecDepth 100000 in
theorem ggX8_wish_X8_isHouse : GoodIn wsX8_wish wsX8_isHouse := goodIn_r _ [6, 7, 8, 9, 5, 10, 16, 17, 18, 19, 20, 21, 22, 23, 24, 25, 26, 27, 28, 29, 30, 31, 32, 33, 34, 35, 36, 37, 38, 39, 40, 41, 42, 43, 44, 45, 46, 47, 48] rfl (by decide +kernel)
set_option maxRecDepth 100000 in
theorem gX8_wish_X8_isHouse : GoodIn wsX8_wish (wsV RX8 205 RX8 yX8_isHouse wsX8_isHouse) := goodIn_app (goodIn_r _ [2, 3, 4, 5] rfl (by decide +kernel)) ggX8_wish_X8_isHouse
set_option maxRecDepth 100000 in
theorem ggX8_wish_X8_isDeed : GoodIn wsX8_wish wsX8_isDeed := goodIn_r _ [14, 15, 8, 9, 5, 10, 16, 17, 18, 19, 20, 21, 22, 23, 24, 25, 26, 27, 28, 29, 30, 31, 32, 33, 34, 35, 36, 37, 38, 39, 40, 41, 42, 43, 44, 45, 46, 47, 48] rfl (by decide +kernel)
set_option maxRecDepth 100000 in
theorem gX8_wish_X8_isDeed : GoodIn wsX8_wish (wsV RX8 209 RX8 yX8_isDeed wsX8_isDeed) := goodIn_app (goodIn_r _ [11, 12, 13, 5] rfl (by decide +kernel)) ggX8_wish_X8_isDeed
set_option maxRecDepth 100000 in
theorem ggX8_drop_X8_in : GoodIn wsX8_drop wsX8_in := goodIn_r _ [5] rfl (by decide +kernel)
set_option maxRecDepth 100000 in
theorem gX8_drop_X8_in : GoodIn wsX8_drop (va_wsS RX8 90 yX8_in wsX8_in) := goodIn_app (goodIn_r _ [2, 3, 4] rfl (by decide +kernel)) ggX8_drop_X8_in
set_option maxRecDepth 100000 in
theorem ggX8_drop_X8_becomes : GoodIn wsX8_drop wsX8_becomes := goodIn_r _ [9, 1, 10, 11, 12, 13, 14, 15, 16, 17, 18, 19, 20, 21, 22, 23, 24, 25, 26, 27, 28, 29, 30, 31, 32, 33, 34, 35, 36, 37, 38, 39, 40, 41, 42] rfl (by decide +kernel)
set_option maxRecDepth 100000 in
theorem gX8_drop_X8_becomes : GoodIn wsX8_drop (wsV RX8 214 RX8 yX8_becomes wsX8_becomes) := goodIn_app (goodIn_r _ [6, 7, 8, 4] rfl (by decide +kernel)) ggX8_drop_X8_becomes
set_option maxRecDepth 100000 in
theorem ggX8_moves_X8_swaps : GoodIn wsX8_moves wsX8_swaps := goodIn_r _ [5, 6, 7, 8, 9, 10, 11, 12, 13, 14, 15, 16, 17, 18, 19, 20, 21, 22, 23, 24, 25, 26, 27, 28, 29, 30, 31, 32, 33, 34, 35, 36, 37, 38, 39] rfl (by decide +kernel)
set_option maxRecDepth 100000 in
theorem gX8_moves_X8_swaps : GoodIn wsX8_moves (wsV RX8 225 RX8 yX8_swaps wsX8_swaps) := goodIn_app (goodIn_r _ [1, 2, 3, 4] rfl (by decide +kernel)) ggX8_moves_X8_swaps
set_option maxRecDepth 100000 in
theorem ggX8_move_X8_isHouse : GoodIn wsX8_move wsX8_isHouse := goodIn_r _ [6, 7, 8, 9, 5, 10, 22, 23, 24, 25, 26, 27, 28, 29, 30, 31, 32, 33, 34, 35, 36, 37, 38, 39, 40, 41, 42, 43, 44, 45, 46, 47, 48, 49, 50, 51, 52, 53, 54] rfl (by decide +kernel)
set_option maxRecDepth 100000 in
theorem gX8_move_X8_isHouse : GoodIn wsX8_move (wsV RX8 205 RX8 yX8_isHouse wsX8_isHouse) := goodIn_app (goodIn_r _ [2, 3, 4, 5] rfl (by decide +kernel)) ggX8_move_X8_isHouse
set_option maxRecDepth 100000 in
theorem ggX8_move_X8_moves : GoodIn wsX8_move wsX8_moves := goodIn_r _ [14, 15, 16, 17, 5, 18, 1, 22, 23, 24, 25, 26, 27, 28, 29, 30, 31, 32, 33, 34, 35, 36, 37, 38, 39, 40, 41, 42, 43, 44, 45, 46, 47, 48, 49, 50, 51, 52, 53, 54] rfl (by decide +kernel)
set_option maxRecDepth 100000 in
theorem gX8_move_X8_moves : GoodIn wsX8_move (wsV RX8 229 RX8 yX8_moves wsX8_moves) := goodIn_app (goodIn_r _ [11, 12, 13, 5] rfl (by decide +kernel)) ggX8_move_X8_moves
set_option maxRecDepth 100000 in
theorem ggX8_move_X8_bitsOf : GoodIn wsX8_move wsX8_bitsOf := goodIn_r _ [21] rfl (by decide +kernel)
set_option maxRecDepth 100000 in
theorem gX8_move_X8_bitsOf : GoodIn wsX8_move (va_wsS RX8 233 yX8_bitsOf wsX8_bitsOf) := goodIn_app (goodIn_r _ [19, 20, 5] rfl (by decide +kernel)) ggX8_move_X8_bitsOf
set_option maxRecDepth 100000 in
theorem ggX8_off_X8_in : GoodIn wsX8_off wsX8_in := goodIn_r _ [6] rfl (by decide +kernel)
set_option maxRecDepth 100000 in
theorem gX8_off_X8_in : GoodIn wsX8_off (va_wsS RX8 90 yX8_in wsX8_in) := goodIn_app (goodIn_r _ [3, 4, 5] rfl (by decide +kernel)) ggX8_off_X8_in
set_option maxRecDepth 100000 in
theorem ggX8_does_X8_flag : GoodIn wsX8_does wsX8_flag := goodIn_r _ [7] rfl (by decide +kernel)
set_option maxRecDepth 100000 in
theorem gX8_does_X8_flag : GoodIn wsX8_does (va_wsS RX8 197 yX8_flag wsX8_flag) := goodIn_app (goodIn_r _ [4, 5, 6] rfl (by decide +kernel)) ggX8_does_X8_flag
set_option maxRecDepth 100000 in
theorem ggX8_falls_X8_comes : GoodIn wsX8_falls wsX8_comes := goodIn_r _ [6, 7, 1, 8, 18, 19, 20, 21, 22, 23, 24, 25, 26, 27, 28, 29, 30, 31, 32, 33, 34, 35, 36, 37, 38, 39, 40, 41, 42, 43, 44, 45, 46, 47, 48, 49, 50] rfl (by decide +kernel)
set_option maxRecDepth 100000 in
theorem gX8_falls_X8_comes : GoodIn wsX8_falls (wsV RX8 242 RX8 yX8_comes wsX8_comes) := goodIn_app (goodIn_r _ [2, 3, 4, 5] rfl (by decide +kernel)) ggX8_falls_X8_comes
set_option maxRecDepth 100000 in
theorem ggX8_falls_X8_does : GoodIn wsX8_falls wsX8_does := goodIn_r _ [12, 1, 13, 14, 15, 16, 5, 17, 18, 19, 20, 21, 22, 23, 24, 25, 26, 27, 28, 29, 30, 31, 32, 33, 34, 35, 36, 37, 38, 39, 40, 41, 42, 43, 44, 45, 46, 47, 48, 49, 50] rfl (by decide +kernel)
set_option maxRecDepth 100000 in
theorem gX8_falls_X8_does : GoodIn wsX8_falls (wsV RX8 246 RX8 yX8_does wsX8_does) := goodIn_app (goodIn_r _ [9, 10, 11, 5] rfl (by decide +kernel)) ggX8_falls_X8_does
set_option maxRecDepth 100000 in
theorem ggX8_days_X8_fallsOf : GoodIn wsX8_days wsX8_fallsOf := goodIn_r _ [7] rfl (by decide +kernel)
set_option maxRecDepth 100000 in
theorem gX8_days_X8_fallsOf : GoodIn wsX8_days (va_wsS RX8 249 yX8_fallsOf wsX8_fallsOf) := goodIn_app (goodIn_r _ [4, 5, 6] rfl (by decide +kernel)) ggX8_days_X8_fallsOf
set_option maxRecDepth 100000 in
theorem ggX8_days_X8_byOf : GoodIn wsX8_days wsX8_byOf := goodIn_r _ [10] rfl (by decide +kernel)
set_option maxRecDepth 100000 in
theorem gX8_days_X8_byOf : GoodIn wsX8_days (va_wsS RX8 252 yX8_byOf wsX8_byOf) := goodIn_app (goodIn_r _ [8, 9, 6] rfl (by decide +kernel)) ggX8_days_X8_byOf
set_option maxRecDepth 100000 in
theorem ggX8_days_X8_off : GoodIn wsX8_days wsX8_off := goodIn_r _ [14, 15, 16, 17, 18, 6, 19, 37, 38, 39, 40, 41, 42, 43, 44, 45, 46, 47, 48, 49, 50, 51, 52, 53, 54, 55, 56, 57, 58, 59, 60, 61, 62, 63, 64, 65, 66, 67, 68, 69] rfl (by decide +kernel)
set_option maxRecDepth 100000 in
theorem gX8_days_X8_off : GoodIn wsX8_days (wsV RX8 255 RX8 yX8_off wsX8_off) := goodIn_app (goodIn_r _ [11, 12, 13, 6] rfl (by decide +kernel)) ggX8_days_X8_off
set_option maxRecDepth 100000 in
theorem ggX8_days_X8_falls : GoodIn wsX8_days wsX8_falls := goodIn_r _ [23, 2, 24, 25, 26, 6, 27, 1, 3, 28, 29, 30, 31, 32, 33, 34, 35, 36, 37, 38, 39, 40, 41, 42, 43, 44, 45, 46, 47, 48, 49, 50, 51, 52, 53, 54, 55, 56, 57, 58, 59, 60, 61, 62, 63, 64, 65, 66, 67, 68, 69] rfl (by decide +kernel)
set_option maxRecDepth 100000 in
theorem gX8_days_X8_falls : GoodIn wsX8_days (wsV RX8 258 RX8 yX8_falls wsX8_falls) := goodIn_app (goodIn_r _ [20, 21, 22, 6] rfl (by decide +kernel)) ggX8_days_X8_falls
set_option maxRecDepth 100000 in
theorem ggX8_daysAll_X8_days : GoodIn wsX8_daysAll wsX8_days := goodIn_r _ [6, 7, 8, 9, 10, 11, 5, 12, 13, 14, 15, 16, 17, 18, 19, 20, 21, 22, 23, 24, 25, 26, 27, 28, 29, 30, 31, 32, 33, 34, 35, 36, 37, 1, 38, 39, 40, 41, 42, 43, 44, 45, 46, 47, 48, 49, 50, 51, 52, 53, 54, 55, 56, 57, 58, 59, 60, 61, 62, 63, 64, 65, 66, 67, 68, 69, 70, 71, 72, 73] rfl (by decide +kernel)
set_option maxRecDepth 100000 in
theorem gX8_daysAll_X8_days : GoodIn wsX8_daysAll (wsV RX8 261 RX8 yX8_days wsX8_days) := goodIn_app (goodIn_r _ [2, 3, 4, 5] rfl (by decide +kernel)) ggX8_daysAll_X8_days
set_option maxRecDepth 100000 in
theorem ggX8_go_X8_in : GoodIn wsX8_go wsX8_in := goodIn_r _ [8] rfl (by decide +kernel)
set_option maxRecDepth 100000 in
theorem gX8_go_X8_in : GoodIn wsX8_go (va_wsS RX8 90 yX8_in wsX8_in) := goodIn_app (goodIn_r _ [5, 6, 7] rfl (by decide +kernel)) ggX8_go_X8_in
set_option maxRecDepth 100000 in
theorem ggX8_go_X8_starts : GoodIn wsX8_go wsX8_starts := goodIn_r _ [12, 3, 2, 51, 52, 53, 54, 55, 56, 57, 58, 59, 60, 61, 62, 63, 64, 65, 66, 67, 68, 69, 70, 71, 72, 73, 74, 75, 76, 77, 78, 79, 80, 81, 82, 83] rfl (by decide +kernel)
set_option maxRecDepth 100000 in
theorem gX8_go_X8_starts : GoodIn wsX8_go (wsV RX8 266 RX8 yX8_starts wsX8_starts) := goodIn_app (goodIn_r _ [9, 10, 11, 7] rfl (by decide +kernel)) ggX8_go_X8_starts
set_option maxRecDepth 100000 in
theorem ggX8_go_X8_daysAll : GoodIn wsX8_go wsX8_daysAll := goodIn_r _ [16, 4, 17, 18, 19, 7, 20, 21, 3, 22, 23, 24, 25, 26, 27, 28, 29, 30, 31, 32, 33, 34, 5, 6, 8, 35, 36, 37, 38, 39, 40, 41, 42, 43, 44, 45, 46, 47, 48, 49, 50, 51, 52, 53, 54, 55, 56, 57, 58, 59, 60, 61, 62, 63, 64, 65, 66, 67, 68, 69, 70, 71, 72, 73, 74, 75, 76, 77, 78, 79, 80, 81, 82, 83] rfl (by decide +kernel)
set_option maxRecDepth 100000 in
theorem gX8_go_X8_daysAll : GoodIn wsX8_go (wsV RX8 269 RX8 yX8_daysAll wsX8_daysAll) := goodIn_app (goodIn_r _ [13, 14, 15, 7] rfl (by decide +kernel)) ggX8_go_X8_daysAll
set_option maxRecDepth 100000 in
theorem ggX8_ahead_X8_isHouse : GoodIn wsX8_ahead wsX8_isHouse := goodIn_r _ [7, 8, 9, 10, 6, 11, 60, 61, 62, 63, 64, 65, 66, 67, 68, 69, 70, 71, 72, 73, 74, 75, 76, 77, 78, 79, 80, 81, 82, 83, 84, 85, 86, 87, 88, 89, 90, 91, 92] rfl (by decide +kernel)
set_option maxRecDepth 100000 in
theorem gX8_ahead_X8_isHouse : GoodIn wsX8_ahead (wsV RX8 205 RX8 yX8_isHouse wsX8_isHouse) := goodIn_app (goodIn_r _ [3, 4, 5, 6] rfl (by decide +kernel)) ggX8_ahead_X8_isHouse
set_option maxRecDepth 100000 in
theorem ggX8_ahead_X8_isDeed : GoodIn wsX8_ahead wsX8_isDeed := goodIn_r _ [15, 16, 9, 10, 6, 11, 60, 61, 62, 63, 64, 65, 66, 67, 68, 69, 70, 71, 72, 73, 74, 75, 76, 77, 78, 79, 80, 81, 82, 83, 84, 85, 86, 87, 88, 89, 90, 91, 92] rfl (by decide +kernel)
set_option maxRecDepth 100000 in
theorem gX8_ahead_X8_isDeed : GoodIn wsX8_ahead (wsV RX8 209 RX8 yX8_isDeed wsX8_isDeed) := goodIn_app (goodIn_r _ [12, 13, 14, 6] rfl (by decide +kernel)) ggX8_ahead_X8_isDeed
set_option maxRecDepth 100000 in
theorem ggX8_ahead_X8_in : GoodIn wsX8_ahead wsX8_in := goodIn_r _ [11] rfl (by decide +kernel)
set_option maxRecDepth 100000 in
theorem gX8_ahead_X8_in : GoodIn wsX8_ahead (va_wsS RX8 90 yX8_in wsX8_in) := goodIn_app (goodIn_r _ [9, 10, 6] rfl (by decide +kernel)) ggX8_ahead_X8_in
set_option maxRecDepth 100000 in
theorem ggX8_ahead_X8_starts : GoodIn wsX8_ahead wsX8_starts := goodIn_r _ [20, 2, 21, 60, 61, 62, 63, 64, 65, 66, 67, 68, 69, 70, 71, 72, 73, 74, 75, 76, 77, 78, 79, 80, 81, 82, 83, 84, 85, 86, 87, 88, 89, 90, 91, 92] rfl (by decide +kernel)
set_option maxRecDepth 100000 in
theorem gX8_ahead_X8_starts : GoodIn wsX8_ahead (wsV RX8 266 RX8 yX8_starts wsX8_starts) := goodIn_app (goodIn_r _ [17, 18, 19, 6] rfl (by decide +kernel)) ggX8_ahead_X8_starts
set_option maxRecDepth 100000 in
theorem ggX8_ahead_X8_daysAll : GoodIn wsX8_ahead wsX8_daysAll := goodIn_r _ [25, 26, 27, 28, 29, 6, 30, 31, 2, 32, 33, 34, 35, 36, 37, 38, 39, 40, 41, 42, 43, 8, 9, 10, 11, 44, 45, 46, 47, 48, 49, 50, 51, 52, 53, 54, 55, 56, 57, 58, 59, 60, 61, 62, 63, 64, 65, 66, 67, 68, 69, 70, 71, 72, 73, 74, 75, 76, 77, 78, 79, 80, 81, 82, 83, 84, 85, 86, 87, 88, 89, 90, 91, 92] rfl (by decide +kernel)
set_option maxRecDepth 100000 in
theorem gX8_ahead_X8_daysAll : GoodIn wsX8_ahead (wsV RX8 269 RX8 yX8_daysAll wsX8_daysAll) := goodIn_app (goodIn_r _ [22, 23, 24, 6] rfl (by decide +kernel)) ggX8_ahead_X8_daysAll
set_option maxRecDepth 100000 in
theorem ggX8_rest_X8_starts : GoodIn wsX8_rest wsX8_starts := goodIn_r _ [6, 1, 7, 46, 47, 48, 49, 50, 51, 52, 53, 54, 55, 56, 57, 58, 59, 60, 61, 62, 63, 64, 65, 66, 67, 68, 69, 70, 71, 72, 73, 74, 75, 76, 77, 78] rfl (by decide +kernel)
set_option maxRecDepth 100000 in
theorem gX8_rest_X8_starts : GoodIn wsX8_rest (wsV RX8 266 RX8 yX8_starts wsX8_starts) := goodIn_app (goodIn_r _ [2, 3, 4, 5] rfl (by decide +kernel)) ggX8_rest_X8_starts
set_option maxRecDepth 100000 in
theorem ggX8_rest_X8_days : GoodIn wsX8_rest wsX8_days := goodIn_r _ [11, 12, 1, 13, 14, 15, 5, 16, 17, 18, 19, 20, 21, 22, 23, 24, 25, 26, 27, 28, 29, 30, 31, 32, 33, 34, 35, 36, 37, 38, 39, 40, 41, 42, 43, 44, 45, 46, 47, 48, 49, 50, 51, 52, 53, 54, 55, 56, 57, 58, 59, 60, 61, 62, 63, 64, 65, 66, 67, 68, 69, 70, 71, 72, 73, 74, 75, 76, 77, 78] rfl (by decide +kernel)
set_option maxRecDepth 100000 in
theorem gX8_rest_X8_days : GoodIn wsX8_rest (wsV RX8 261 RX8 yX8_days wsX8_days) := goodIn_app (goodIn_r _ [8, 9, 10, 5] rfl (by decide +kernel)) ggX8_rest_X8_days
set_option maxRecDepth 100000 in
theorem ggX8_fallen_X8_fallsOf : GoodIn wsX8_fallen wsX8_fallsOf := goodIn_r _ [5] rfl (by decide +kernel)
set_option maxRecDepth 100000 in
theorem gX8_fallen_X8_fallsOf : GoodIn wsX8_fallen (va_wsS RX8 249 yX8_fallsOf wsX8_fallsOf) := goodIn_app (goodIn_r _ [2, 3, 4] rfl (by decide +kernel)) ggX8_fallen_X8_fallsOf
set_option maxRecDepth 100000 in
theorem ggX8_fallen_X8_byOf : GoodIn wsX8_fallen wsX8_byOf := goodIn_r _ [8] rfl (by decide +kernel)
set_option maxRecDepth 100000 in
theorem gX8_fallen_X8_byOf : GoodIn wsX8_fallen (va_wsS RX8 252 yX8_byOf wsX8_byOf) := goodIn_app (goodIn_r _ [6, 7, 4] rfl (by decide +kernel)) ggX8_fallen_X8_byOf
set_option maxRecDepth 100000 in
theorem ggX8_fallen_X8_off : GoodIn wsX8_fallen wsX8_off := goodIn_r _ [12, 13, 1, 14, 15, 4, 16, 20, 21, 22, 23, 24, 25, 26, 27, 28, 29, 30, 31, 32, 33, 34, 35, 36, 37, 38, 39, 40, 41, 42, 43, 44, 45, 46, 47, 48, 49, 50, 51, 52] rfl (by decide +kernel)
set_option maxRecDepth 100000 in
theorem gX8_fallen_X8_off : GoodIn wsX8_fallen (wsV RX8 255 RX8 yX8_off wsX8_off) := goodIn_app (goodIn_r _ [9, 10, 11, 4] rfl (by decide +kernel)) ggX8_fallen_X8_off
set_option maxRecDepth 100000 in
theorem ggX8_fallen_X8_flag : GoodIn wsX8_fallen wsX8_flag := goodIn_r _ [19] rfl (by decide +kernel)
set_option maxRecDepth 100000 in
theorem gX8_fallen_X8_flag : GoodIn wsX8_fallen (va_wsS RX8 197 yX8_flag wsX8_flag) := goodIn_app (goodIn_r _ [17, 18, 4] rfl (by decide +kernel)) ggX8_fallen_X8_flag
set_option maxRecDepth 100000 in
theorem ggX8_endsAt_X8_lawyersNow : GoodIn wsX8_endsAt wsX8_lawyersNow := goodIn_r _ [5, 6, 7, 29, 30, 31, 32, 33, 34, 35, 36, 37, 38, 39, 40, 41, 42, 43, 44, 45, 46, 47, 48, 49, 50, 51, 52, 53, 54, 55, 56, 57, 58, 59, 60, 61] rfl (by decide +kernel)
set_option maxRecDepth 100000 in
theorem gX8_endsAt_X8_lawyersNow : GoodIn wsX8_endsAt (wsV RX8 272 RX8 yX8_lawyersNow wsX8_lawyersNow) := goodIn_app (goodIn_r _ [1, 2, 3, 4] rfl (by decide +kernel)) ggX8_endsAt_X8_lawyersNow
set_option maxRecDepth 100000 in
theorem ggX8_endsAt_X8_fallen : GoodIn wsX8_endsAt wsX8_fallen := goodIn_r _ [11, 6, 12, 13, 4, 14, 15, 16, 17, 18, 19, 20, 21, 22, 23, 24, 25, 26, 27, 28, 29, 30, 31, 32, 33, 34, 35, 36, 37, 38, 39, 40, 41, 42, 43, 44, 45, 46, 47, 48, 49, 50, 51, 52, 53, 54, 55, 56, 57, 58, 59, 60, 61] rfl (by decide +kernel)
set_option maxRecDepth 100000 in
theorem gX8_endsAt_X8_fallen : GoodIn wsX8_endsAt (wsV RX8 275 RX8 yX8_fallen wsX8_fallen) := goodIn_app (goodIn_r _ [8, 9, 10, 4] rfl (by decide +kernel)) ggX8_endsAt_X8_fallen
set_option maxRecDepth 100000 in
theorem ggX8_doesBring_X8_endsAt : GoodIn wsX8_doesBring wsX8_endsAt := goodIn_r _ [6, 7, 8, 9, 5, 10, 11, 1, 12, 13, 14, 15, 16, 17, 18, 19, 20, 21, 22, 23, 24, 25, 26, 27, 28, 29, 30, 31, 32, 33, 34, 35, 36, 37, 38, 39, 40, 41, 42, 43, 44, 45, 46, 47, 48, 49, 50, 51, 52, 53, 54, 55, 56, 57, 58, 59, 60, 61, 62, 63, 64, 65] rfl (by decide +kernel)
set_option maxRecDepth 100000 in
theorem gX8_doesBring_X8_endsAt : GoodIn wsX8_doesBring (wsV RX8 279 RX8 yX8_endsAt wsX8_endsAt) := goodIn_app (goodIn_r _ [2, 3, 4, 5] rfl (by decide +kernel)) ggX8_doesBring_X8_endsAt
set_option maxRecDepth 100000 in
theorem ggX8_findCovers_X8_doesBring : GoodIn wsX8_findCovers wsX8_doesBring := goodIn_r _ [9, 2, 10, 11, 12, 8, 13, 14, 15, 16, 17, 3, 18, 19, 20, 21, 22, 23, 24, 25, 26, 27, 28, 29, 30, 31, 32, 33, 34, 35, 36, 37, 38, 39, 40, 41, 42, 43, 44, 45, 46, 47, 48, 49, 50, 51, 52, 53, 54, 55, 56, 57, 58, 59, 60, 61, 62, 63, 64, 65, 66, 67, 68, 69, 70, 71] rfl (by decide +kernel)
set_option maxRecDepth 100000 in
theorem gX8_findCovers_X8_doesBring : GoodIn wsX8_findCovers (wsV RX8 282 RX8 yX8_doesBring wsX8_doesBring) := goodIn_app (goodIn_r _ [5, 6, 7, 8] rfl (by decide +kernel)) ggX8_findCovers_X8_doesBring
set_option maxRecDepth 100000 in
theorem ggX8_findCovers_X8_flag : GoodIn wsX8_findCovers wsX8_flag := goodIn_r _ [38] rfl (by decide +kernel)
set_option maxRecDepth 100000 in
theorem gX8_findCovers_X8_flag : GoodIn wsX8_findCovers (va_wsS RX8 197 yX8_flag wsX8_flag) := goodIn_app (goodIn_r _ [36, 37, 8] rfl (by decide +kernel)) ggX8_findCovers_X8_flag
set_option maxRecDepth 100000 in
theorem ggX8_findFewest_X8_findCovers : GoodIn wsX8_findFewest wsX8_findCovers := goodIn_r _ [8, 3, 9, 10, 11, 12, 13, 14, 7, 15, 16, 17, 18, 19, 20, 21, 22, 23, 24, 25, 26, 27, 28, 29, 30, 31, 32, 33, 34, 35, 36, 37, 38, 39, 40, 41, 42, 43, 44, 45, 46, 47, 48, 49, 50, 51, 52, 53, 54, 55, 56, 57, 58, 59, 60, 61, 62, 63, 64, 65, 66, 67, 68, 69, 70, 71, 72, 73, 74, 75, 76, 77] rfl (by decide +kernel)
set_option maxRecDepth 100000 in
theorem gX8_findFewest_X8_findCovers : GoodIn wsX8_findFewest (wsV RX8 286 RX8 yX8_findCovers wsX8_findCovers) := goodIn_app (goodIn_r _ [4, 5, 6, 7] rfl (by decide +kernel)) ggX8_findFewest_X8_findCovers
set_option maxRecDepth 100000 in
theorem ggX8_plan_X8_in : GoodIn wsX8_plan wsX8_in := goodIn_r _ [10] rfl (by decide +kernel)
set_option maxRecDepth 100000 in
theorem gX8_plan_X8_in : GoodIn wsX8_plan (va_wsS RX8 90 yX8_in wsX8_in) := goodIn_app (goodIn_r _ [7, 8, 9] rfl (by decide +kernel)) ggX8_plan_X8_in
set_option maxRecDepth 100000 in
theorem ggX8_plan_X8_findFewest : GoodIn wsX8_plan wsX8_findFewest := goodIn_r _ [14, 5, 4, 6, 15, 16, 17, 9, 18, 3, 19, 20, 21, 22, 23, 24, 25, 26, 27, 28, 29, 30, 31, 32, 33, 34, 35, 36, 37, 38, 39, 40, 41, 42, 43, 44, 45, 46, 47, 7, 8, 10, 48, 49, 50, 51, 52, 53, 54, 55, 56, 57, 58, 59, 60, 61, 62, 63, 64, 65, 66, 67, 68, 69, 70, 71, 72, 73, 74, 75, 76, 77, 78, 79, 80, 81, 82, 83] rfl (by decide +kernel)
set_option maxRecDepth 100000 in
theorem gX8_plan_X8_findFewest : GoodIn wsX8_plan (wsV RX8 292 RX8 yX8_findFewest wsX8_findFewest) := goodIn_app (goodIn_r _ [11, 12, 13, 9] rfl (by decide +kernel)) ggX8_plan_X8_findFewest
set_option maxRecDepth 100000 in
theorem ggX8_who_X8_isHouse : GoodIn wsX8_who wsX8_isHouse := goodIn_r _ [7, 2, 8, 9, 6, 10, 47, 48, 49, 50, 51, 52, 53, 54, 55, 56, 57, 58, 59, 60, 61, 62, 63, 64, 65, 66, 67, 68, 69, 70, 71, 72, 73, 74, 75, 76, 77, 78, 79] rfl (by decide +kernel)
set_option maxRecDepth 100000 in
theorem gX8_who_X8_isHouse : GoodIn wsX8_who (wsV RX8 205 RX8 yX8_isHouse wsX8_isHouse) := goodIn_app (goodIn_r _ [3, 4, 5, 6] rfl (by decide +kernel)) ggX8_who_X8_isHouse
set_option maxRecDepth 100000 in
theorem ggX8_who_X8_isDeed : GoodIn wsX8_who wsX8_isDeed := goodIn_r _ [14, 15, 8, 9, 6, 10, 47, 48, 49, 50, 51, 52, 53, 54, 55, 56, 57, 58, 59, 60, 61, 62, 63, 64, 65, 66, 67, 68, 69, 70, 71, 72, 73, 74, 75, 76, 77, 78, 79] rfl (by decide +kernel)
set_option maxRecDepth 100000 in
theorem gX8_who_X8_isDeed : GoodIn wsX8_who (wsV RX8 209 RX8 yX8_isDeed wsX8_isDeed) := goodIn_app (goodIn_r _ [11, 12, 13, 6] rfl (by decide +kernel)) ggX8_who_X8_isDeed
set_option maxRecDepth 100000 in
theorem ggX8_who_X8_in : GoodIn wsX8_who wsX8_in := goodIn_r _ [10] rfl (by decide +kernel)
set_option maxRecDepth 100000 in
theorem gX8_who_X8_in : GoodIn wsX8_who (va_wsS RX8 90 yX8_in wsX8_in) := goodIn_app (goodIn_r _ [8, 9, 6] rfl (by decide +kernel)) ggX8_who_X8_in
set_option maxRecDepth 100000 in
theorem ggX8_who_X8_doesBring : GoodIn wsX8_who wsX8_doesBring := goodIn_r _ [19, 20, 21, 22, 23, 6, 24, 25, 26, 27, 28, 2, 29, 30, 31, 32, 33, 34, 35, 36, 37, 38, 39, 40, 41, 42, 43, 8, 9, 10, 44, 45, 46, 47, 48, 49, 50, 51, 52, 53, 54, 55, 56, 57, 58, 59, 60, 61, 62, 63, 64, 65, 66, 67, 68, 69, 70, 71, 72, 73, 74, 75, 76, 77, 78, 79] rfl (by decide +kernel)
set_option maxRecDepth 100000 in
theorem gX8_who_X8_doesBring : GoodIn wsX8_who (wsV RX8 282 RX8 yX8_doesBring wsX8_doesBring) := goodIn_app (goodIn_r _ [16, 17, 18, 6] rfl (by decide +kernel)) ggX8_who_X8_doesBring
set_option maxRecDepth 100000 in
theorem ggX8_who_X8_flag : GoodIn wsX8_who wsX8_flag := goodIn_r _ [46] rfl (by decide +kernel)
set_option maxRecDepth 100000 in
theorem gX8_who_X8_flag : GoodIn wsX8_who (va_wsS RX8 197 yX8_flag wsX8_flag) := goodIn_app (goodIn_r _ [44, 45, 6] rfl (by decide +kernel)) ggX8_who_X8_flag
set_option maxRecDepth 100000 in
theorem ggX8_ways_X8_isHouse : GoodIn wsX8_ways wsX8_isHouse := goodIn_r _ [6, 1, 7, 8, 5, 9, 46, 47, 48, 49, 50, 51, 52, 53, 54, 55, 56, 57, 58, 59, 60, 61, 62, 63, 64, 65, 66, 67, 68, 69, 70, 71, 72, 73, 74, 75, 76, 77, 78] rfl (by decide +kernel)
set_option maxRecDepth 100000 in
theorem gX8_ways_X8_isHouse : GoodIn wsX8_ways (wsV RX8 205 RX8 yX8_isHouse wsX8_isHouse) := goodIn_app (goodIn_r _ [2, 3, 4, 5] rfl (by decide +kernel)) ggX8_ways_X8_isHouse
set_option maxRecDepth 100000 in
theorem ggX8_ways_X8_isDeed : GoodIn wsX8_ways wsX8_isDeed := goodIn_r _ [13, 14, 7, 8, 5, 9, 46, 47, 48, 49, 50, 51, 52, 53, 54, 55, 56, 57, 58, 59, 60, 61, 62, 63, 64, 65, 66, 67, 68, 69, 70, 71, 72, 73, 74, 75, 76, 77, 78] rfl (by decide +kernel)
set_option maxRecDepth 100000 in
theorem gX8_ways_X8_isDeed : GoodIn wsX8_ways (wsV RX8 209 RX8 yX8_isDeed wsX8_isDeed) := goodIn_app (goodIn_r _ [10, 11, 12, 5] rfl (by decide +kernel)) ggX8_ways_X8_isDeed
set_option maxRecDepth 100000 in
theorem ggX8_ways_X8_in : GoodIn wsX8_ways wsX8_in := goodIn_r _ [9] rfl (by decide +kernel)
set_option maxRecDepth 100000 in
theorem gX8_ways_X8_in : GoodIn wsX8_ways (va_wsS RX8 90 yX8_in wsX8_in) := goodIn_app (goodIn_r _ [7, 8, 5] rfl (by decide +kernel)) ggX8_ways_X8_in
set_option maxRecDepth 100000 in
theorem ggX8_ways_X8_doesBring : GoodIn wsX8_ways wsX8_doesBring := goodIn_r _ [18, 19, 20, 21, 22, 5, 23, 24, 25, 26, 27, 1, 28, 29, 30, 31, 32, 33, 34, 35, 36, 37, 38, 39, 40, 41, 42, 7, 8, 9, 43, 44, 45, 46, 47, 48, 49, 50, 51, 52, 53, 54, 55, 56, 57, 58, 59, 60, 61, 62, 63, 64, 65, 66, 67, 68, 69, 70, 71, 72, 73, 74, 75, 76, 77, 78] rfl (by decide +kernel)
set_option maxRecDepth 100000 in
theorem gX8_ways_X8_doesBring : GoodIn wsX8_ways (wsV RX8 282 RX8 yX8_doesBring wsX8_doesBring) := goodIn_app (goodIn_r _ [15, 16, 17, 5] rfl (by decide +kernel)) ggX8_ways_X8_doesBring
set_option maxRecDepth 100000 in
theorem ggX8_isEndless_X8_fallen : GoodIn wsX8_isEndless wsX8_fallen := goodIn_r _ [6, 7, 8, 9, 5, 10, 11, 12, 13, 14, 15, 16, 17, 18, 19, 20, 21, 22, 23, 24, 25, 26, 27, 28, 29, 30, 31, 32, 33, 34, 35, 36, 37, 38, 39, 40, 41, 42, 43, 44, 45, 46, 47, 48, 49, 50, 51, 52, 53, 54, 55, 56, 57] rfl (by decide +kernel)
set_option maxRecDepth 100000 in
theorem gX8_isEndless_X8_fallen : GoodIn wsX8_isEndless (wsV RX8 275 RX8 yX8_fallen wsX8_fallen) := goodIn_app (goodIn_r _ [2, 3, 4, 5] rfl (by decide +kernel)) ggX8_isEndless_X8_fallen
set_option maxRecDepth 100000 in
theorem ggX8_endless_X8_isEndless : GoodIn wsX8_endless wsX8_isEndless := goodIn_r _ [6, 1, 7, 8, 9, 5, 10, 11, 12, 13, 14, 15, 16, 17, 18, 19, 20, 21, 22, 23, 24, 25, 26, 27, 28, 29, 30, 31, 32, 33, 34, 35, 36, 37, 38, 39, 40, 41, 42, 43, 44, 45, 46, 47, 48, 49, 50, 51, 52, 53, 54, 55, 56, 57, 58, 59, 60, 61] rfl (by decide +kernel)
set_option maxRecDepth 100000 in
theorem gX8_endless_X8_isEndless : GoodIn wsX8_endless (wsV RX8 295 RX8 yX8_isEndless wsX8_isEndless) := goodIn_app (goodIn_r _ [2, 3, 4, 5] rfl (by decide +kernel)) ggX8_endless_X8_isEndless
set_option maxRecDepth 100000 in
theorem ggX8_endless_X8_flag : GoodIn wsX8_endless wsX8_flag := goodIn_r _ [28] rfl (by decide +kernel)
set_option maxRecDepth 100000 in
theorem gX8_endless_X8_flag : GoodIn wsX8_endless (va_wsS RX8 197 yX8_flag wsX8_flag) := goodIn_app (goodIn_r _ [26, 27, 5] rfl (by decide +kernel)) ggX8_endless_X8_flag
set_option maxRecDepth 100000 in
theorem ggX8_ever_X8_lawyersNow : GoodIn wsX8_ever wsX8_lawyersNow := goodIn_r _ [5, 6, 7, 37, 38, 39, 40, 41, 42, 43, 44, 45, 46, 47, 48, 49, 50, 51, 52, 53, 54, 55, 56, 57, 58, 59, 60, 61, 62, 63, 64, 65, 66, 67, 68, 69] rfl (by decide +kernel)
set_option maxRecDepth 100000 in
theorem gX8_ever_X8_lawyersNow : GoodIn wsX8_ever (wsV RX8 272 RX8 yX8_lawyersNow wsX8_lawyersNow) := goodIn_app (goodIn_r _ [1, 2, 3, 4] rfl (by decide +kernel)) ggX8_ever_X8_lawyersNow
set_option maxRecDepth 100000 in
theorem ggX8_ever_X8_endless : GoodIn wsX8_ever wsX8_endless := goodIn_r _ [11, 7, 12, 13, 14, 4, 15, 16, 17, 18, 19, 6, 20, 21, 22, 23, 24, 25, 26, 27, 28, 29, 30, 31, 32, 33, 34, 35, 36, 37, 38, 39, 40, 41, 42, 43, 44, 45, 46, 47, 48, 49, 50, 51, 52, 53, 54, 55, 56, 57, 58, 59, 60, 61, 62, 63, 64, 65, 66, 67, 68, 69] rfl (by decide +kernel)
set_option maxRecDepth 100000 in
theorem gX8_ever_X8_endless : GoodIn wsX8_ever (wsV RX8 299 RX8 yX8_endless wsX8_endless) := goodIn_app (goodIn_r _ [8, 9, 10, 4] rfl (by decide +kernel)) ggX8_ever_X8_endless
set_option maxRecDepth 100000 in
theorem ggX8_stop_X8_in : GoodIn wsX8_stop wsX8_in := goodIn_r _ [6] rfl (by decide +kernel)
set_option maxRecDepth 100000 in
theorem gX8_stop_X8_in : GoodIn wsX8_stop (va_wsS RX8 90 yX8_in wsX8_in) := goodIn_app (goodIn_r _ [3, 4, 5] rfl (by decide +kernel)) ggX8_stop_X8_in
set_option maxRecDepth 100000 in
theorem ggX8_stop_X8_lawyersNow : GoodIn wsX8_stop wsX8_lawyersNow := goodIn_r _ [10, 2, 11, 41, 42, 43, 44, 45, 46, 47, 48, 49, 50, 51, 52, 53, 54, 55, 56, 57, 58, 59, 60, 61, 62, 63, 64, 65, 66, 67, 68, 69, 70, 71, 72, 73] rfl (by decide +kernel)
set_option maxRecDepth 100000 in
theorem gX8_stop_X8_lawyersNow : GoodIn wsX8_stop (wsV RX8 272 RX8 yX8_lawyersNow wsX8_lawyersNow) := goodIn_app (goodIn_r _ [7, 8, 9, 5] rfl (by decide +kernel)) ggX8_stop_X8_lawyersNow
set_option maxRecDepth 100000 in
theorem ggX8_stop_X8_bitsOf : GoodIn wsX8_stop wsX8_bitsOf := goodIn_r _ [14] rfl (by decide +kernel)
set_option maxRecDepth 100000 in
theorem gX8_stop_X8_bitsOf : GoodIn wsX8_stop (va_wsS RX8 233 yX8_bitsOf wsX8_bitsOf) := goodIn_app (goodIn_r _ [12, 13, 5] rfl (by decide +kernel)) ggX8_stop_X8_bitsOf
set_option maxRecDepth 100000 in
theorem ggX8_stop_X8_endless : GoodIn wsX8_stop wsX8_endless := goodIn_r _ [18, 11, 19, 20, 21, 5, 22, 23, 24, 25, 26, 2, 27, 28, 29, 30, 31, 32, 33, 34, 35, 36, 37, 3, 4, 6, 38, 39, 40, 41, 42, 43, 44, 45, 46, 47, 48, 49, 50, 51, 52, 53, 54, 55, 56, 57, 58, 59, 60, 61, 62, 63, 64, 65, 66, 67, 68, 69, 70, 71, 72, 73] rfl (by decide +kernel)
set_option maxRecDepth 100000 in
theorem gX8_stop_X8_endless : GoodIn wsX8_stop (wsV RX8 299 RX8 yX8_endless wsX8_endless) := goodIn_app (goodIn_r _ [15, 16, 17, 5] rfl (by decide +kernel)) ggX8_stop_X8_endless
set_option maxRecDepth 100000 in
theorem ggX8_best_X8_in : GoodIn wsX8_best wsX8_in := goodIn_r _ [7] rfl (by decide +kernel)
set_option maxRecDepth 100000 in
theorem gX8_best_X8_in : GoodIn wsX8_best (va_wsS RX8 90 yX8_in wsX8_in) := goodIn_app (goodIn_r _ [4, 5, 6] rfl (by decide +kernel)) ggX8_best_X8_in
set_option maxRecDepth 100000 in
theorem ggX8_best_X8_starts : GoodIn wsX8_best wsX8_starts := goodIn_r _ [11, 12, 13, 59, 60, 61, 62, 63, 64, 65, 66, 67, 68, 69, 70, 71, 72, 73, 74, 75, 76, 77, 78, 79, 80, 81, 82, 83, 84, 85, 86, 87, 88, 89, 90, 91] rfl (by decide +kernel)
set_option maxRecDepth 100000 in
theorem gX8_best_X8_starts : GoodIn wsX8_best (wsV RX8 266 RX8 yX8_starts wsX8_starts) := goodIn_app (goodIn_r _ [8, 9, 10, 6] rfl (by decide +kernel)) ggX8_best_X8_starts
set_option maxRecDepth 100000 in
theorem ggX8_best_X8_daysAll : GoodIn wsX8_best wsX8_daysAll := goodIn_r _ [17, 2, 18, 19, 20, 6, 21, 22, 12, 23, 24, 25, 26, 27, 28, 29, 30, 31, 32, 33, 34, 3, 4, 5, 7, 35, 36, 37, 38, 39, 40, 41, 42, 43, 44, 45, 46, 47, 48, 49, 50, 59, 60, 61, 62, 63, 64, 65, 66, 67, 68, 69, 70, 71, 72, 73, 74, 75, 76, 77, 78, 79, 80, 81, 82, 83, 84, 85, 86, 87, 88, 89, 90, 91] rfl (by decide +kernel)
set_option maxRecDepth 100000 in
theorem gX8_best_X8_daysAll : GoodIn wsX8_best (wsV RX8 269 RX8 yX8_daysAll wsX8_daysAll) := goodIn_app (goodIn_r _ [14, 15, 16, 6] rfl (by decide +kernel)) ggX8_best_X8_daysAll
set_option maxRecDepth 100000 in
theorem ggX8_best_X8_moves : GoodIn wsX8_best wsX8_moves := goodIn_r _ [54, 55, 56, 57, 6, 58, 13, 59, 60, 61, 62, 63, 64, 65, 66, 67, 68, 69, 70, 71, 72, 73, 74, 75, 76, 77, 78, 79, 80, 81, 82, 83, 84, 85, 86, 87, 88, 89, 90, 91] rfl (by decide +kernel)
set_option maxRecDepth 100000 in
theorem gX8_best_X8_moves : GoodIn wsX8_best (wsV RX8 229 RX8 yX8_moves wsX8_moves) := goodIn_app (goodIn_r _ [51, 52, 53, 6] rfl (by decide +kernel)) ggX8_best_X8_moves
set_option maxRecDepth 100000 in
theorem ggX8_told_X8_common : GoodIn wsX8_told wsX8_common := goodIn_r _ [4] rfl (by decide +kernel)
set_option maxRecDepth 100000 in
theorem gX8_told_X8_common : GoodIn wsX8_told (va_wsS RX8 304 yX8_common wsX8_common) := goodIn_app (goodIn_r _ [1, 2, 3] rfl (by decide +kernel)) ggX8_told_X8_common
set_option maxRecDepth 100000 in
theorem ggX8_timesOf_X8_fallsOf : GoodIn wsX8_timesOf wsX8_fallsOf := goodIn_r _ [5] rfl (by decide +kernel)
set_option maxRecDepth 100000 in
theorem gX8_timesOf_X8_fallsOf : GoodIn wsX8_timesOf (va_wsS RX8 249 yX8_fallsOf wsX8_fallsOf) := goodIn_app (goodIn_r _ [2, 3, 4] rfl (by decide +kernel)) ggX8_timesOf_X8_fallsOf
set_option maxRecDepth 100000 in
theorem ggX8_timesOf_X8_byOf : GoodIn wsX8_timesOf wsX8_byOf := goodIn_r _ [8] rfl (by decide +kernel)
set_option maxRecDepth 100000 in
theorem gX8_timesOf_X8_byOf : GoodIn wsX8_timesOf (va_wsS RX8 252 yX8_byOf wsX8_byOf) := goodIn_app (goodIn_r _ [6, 7, 4] rfl (by decide +kernel)) ggX8_timesOf_X8_byOf
set_option maxRecDepth 100000 in
theorem ggX8_timesOf_X8_off : GoodIn wsX8_timesOf wsX8_off := goodIn_r _ [12, 13, 14, 15, 16, 4, 17, 21, 22, 23, 24, 25, 26, 27, 28, 29, 30, 31, 32, 33, 34, 35, 36, 37, 38, 39, 40, 41, 42, 43, 44, 45, 46, 47, 48, 49, 50, 51, 52, 53] rfl (by decide +kernel)
set_option maxRecDepth 100000 in
theorem gX8_timesOf_X8_off : GoodIn wsX8_timesOf (wsV RX8 255 RX8 yX8_off wsX8_off) := goodIn_app (goodIn_r _ [9, 10, 11, 4] rfl (by decide +kernel)) ggX8_timesOf_X8_off
set_option maxRecDepth 100000 in
theorem ggX8_timesOf_X8_flag : GoodIn wsX8_timesOf wsX8_flag := goodIn_r _ [20] rfl (by decide +kernel)
set_option maxRecDepth 100000 in
theorem gX8_timesOf_X8_flag : GoodIn wsX8_timesOf (va_wsS RX8 197 yX8_flag wsX8_flag) := goodIn_app (goodIn_r _ [18, 19, 4] rfl (by decide +kernel)) ggX8_timesOf_X8_flag
set_option maxRecDepth 100000 in
theorem ggX8_mean_X8_isHouse : GoodIn wsX8_mean wsX8_isHouse := goodIn_r _ [10, 2, 11, 12, 9, 13, 38, 39, 40, 41, 42, 43, 44, 45, 46, 47, 48, 49, 50, 51, 52, 53, 54, 55, 56, 57, 58, 59, 60, 61, 62, 63, 64, 65, 66, 67, 68, 69, 70] rfl (by decide +kernel)
set_option maxRecDepth 100000 in
theorem gX8_mean_X8_isHouse : GoodIn wsX8_mean (wsV RX8 205 RX8 yX8_isHouse wsX8_isHouse) := goodIn_app (goodIn_r _ [6, 7, 8, 9] rfl (by decide +kernel)) ggX8_mean_X8_isHouse
set_option maxRecDepth 100000 in
theorem ggX8_mean_X8_in : GoodIn wsX8_mean wsX8_in := goodIn_r _ [13] rfl (by decide +kernel)
set_option maxRecDepth 100000 in
theorem gX8_mean_X8_in : GoodIn wsX8_mean (va_wsS RX8 90 yX8_in wsX8_in) := goodIn_app (goodIn_r _ [11, 12, 9] rfl (by decide +kernel)) ggX8_mean_X8_in
set_option maxRecDepth 100000 in
theorem ggX8_mean_X8_timesOf : GoodIn wsX8_mean wsX8_timesOf := goodIn_r _ [17, 3, 18, 19, 9, 20, 21, 22, 23, 24, 25, 26, 27, 28, 2, 11, 12, 13, 29, 30, 31, 38, 39, 40, 41, 42, 43, 44, 45, 46, 47, 48, 49, 50, 51, 52, 53, 54, 55, 56, 57, 58, 59, 60, 61, 62, 63, 64, 65, 66, 67, 68, 69, 70] rfl (by decide +kernel)
set_option maxRecDepth 100000 in
theorem gX8_mean_X8_timesOf : GoodIn wsX8_mean (wsV RX8 310 RX8 yX8_timesOf wsX8_timesOf) := goodIn_app (goodIn_r _ [14, 15, 16, 9] rfl (by decide +kernel)) ggX8_mean_X8_timesOf
set_option maxRecDepth 100000 in
theorem ggX8_mean_X8_told : GoodIn wsX8_mean wsX8_told := goodIn_r _ [34, 35, 36, 9, 37] rfl (by decide +kernel)
set_option maxRecDepth 100000 in
theorem gX8_mean_X8_told : GoodIn wsX8_mean (va_wsS RX8 313 yX8_told wsX8_told) := goodIn_app (goodIn_r _ [32, 33, 9] rfl (by decide +kernel)) ggX8_mean_X8_told
set_option maxRecDepth 100000 in
theorem ggX8_luck_X8_isHouse : GoodIn wsX8_luck wsX8_isHouse := goodIn_r _ [10, 2, 11, 12, 9, 13, 38, 39, 40, 41, 42, 43, 44, 45, 46, 47, 48, 49, 50, 51, 52, 53, 54, 55, 56, 57, 58, 59, 60, 61, 62, 63, 64, 65, 66, 67, 68, 69, 70] rfl (by decide +kernel)
set_option maxRecDepth 100000 in
theorem gX8_luck_X8_isHouse : GoodIn wsX8_luck (wsV RX8 205 RX8 yX8_isHouse wsX8_isHouse) := goodIn_app (goodIn_r _ [6, 7, 8, 9] rfl (by decide +kernel)) ggX8_luck_X8_isHouse
set_option maxRecDepth 100000 in
theorem ggX8_luck_X8_in : GoodIn wsX8_luck wsX8_in := goodIn_r _ [13] rfl (by decide +kernel)
set_option maxRecDepth 100000 in
theorem gX8_luck_X8_in : GoodIn wsX8_luck (va_wsS RX8 90 yX8_in wsX8_in) := goodIn_app (goodIn_r _ [11, 12, 9] rfl (by decide +kernel)) ggX8_luck_X8_in
set_option maxRecDepth 100000 in
theorem ggX8_luck_X8_timesOf : GoodIn wsX8_luck wsX8_timesOf := goodIn_r _ [17, 4, 18, 19, 9, 20, 21, 22, 23, 24, 25, 26, 27, 28, 2, 11, 12, 13, 29, 30, 31, 38, 39, 40, 41, 42, 43, 44, 45, 46, 47, 48, 49, 50, 51, 52, 53, 54, 55, 56, 57, 58, 59, 60, 61, 62, 63, 64, 65, 66, 67, 68, 69, 70] rfl (by decide +kernel)
set_option maxRecDepth 100000 in
theorem gX8_luck_X8_timesOf : GoodIn wsX8_luck (wsV RX8 310 RX8 yX8_timesOf wsX8_timesOf) := goodIn_app (goodIn_r _ [14, 15, 16, 9] rfl (by decide +kernel)) ggX8_luck_X8_timesOf
set_option maxRecDepth 100000 in
theorem ggX8_luck_X8_told : GoodIn wsX8_luck wsX8_told := goodIn_r _ [34, 35, 36, 9, 37] rfl (by decide +kernel)
set_option maxRecDepth 100000 in
theorem gX8_luck_X8_told : GoodIn wsX8_luck (va_wsS RX8 313 yX8_told wsX8_told) := goodIn_app (goodIn_r _ [32, 33, 9] rfl (by decide +kernel)) ggX8_luck_X8_told
set_option maxRecDepth 100000 in
theorem ggX8_drift_X8_in : GoodIn wsX8_drift wsX8_in := goodIn_r _ [9] rfl (by decide +kernel)
set_option maxRecDepth 100000 in
theorem gX8_drift_X8_in : GoodIn wsX8_drift (va_wsS RX8 90 yX8_in wsX8_in) := goodIn_app (goodIn_r _ [6, 7, 8] rfl (by decide +kernel)) ggX8_drift_X8_in
set_option maxRecDepth 100000 in
theorem ggX8_drift_X8_starts : GoodIn wsX8_drift wsX8_starts := goodIn_r _ [13, 3, 14, 48, 49, 50, 51, 52, 53, 54, 55, 56, 57, 58, 59, 60, 61, 62, 63, 64, 65, 66, 67, 68, 69, 70, 71, 72, 73, 74, 75, 76, 77, 78, 79, 80] rfl (by decide +kernel)
set_option maxRecDepth 100000 in
theorem gX8_drift_X8_starts : GoodIn wsX8_drift (wsV RX8 266 RX8 yX8_starts wsX8_starts) := goodIn_app (goodIn_r _ [10, 11, 12, 8] rfl (by decide +kernel)) ggX8_drift_X8_starts
set_option maxRecDepth 100000 in
theorem ggX8_drift_X8_days : GoodIn wsX8_drift wsX8_days := goodIn_r _ [18, 19, 3, 20, 21, 22, 8, 23, 24, 25, 26, 27, 28, 29, 30, 31, 5, 6, 7, 9, 32, 33, 34, 35, 36, 37, 38, 39, 40, 41, 42, 43, 44, 2, 45, 46, 47, 48, 49, 50, 51, 52, 53, 54, 55, 56, 57, 58, 59, 60, 61, 62, 63, 64, 65, 66, 67, 68, 69, 70, 71, 72, 73, 74, 75, 76, 77, 78, 79, 80] rfl (by decide +kernel)
set_option maxRecDepth 100000 in
theorem gX8_drift_X8_days : GoodIn wsX8_drift (wsV RX8 261 RX8 yX8_days wsX8_days) := goodIn_app (goodIn_r _ [15, 16, 17, 8] rfl (by decide +kernel)) ggX8_drift_X8_days
set_option maxRecDepth 100000 in
theorem ggX8_keep_X8_in : GoodIn wsX8_keep wsX8_in := goodIn_r _ [5] rfl (by decide +kernel)
set_option maxRecDepth 100000 in
theorem gX8_keep_X8_in : GoodIn wsX8_keep (va_wsS RX8 90 yX8_in wsX8_in) := goodIn_app (goodIn_r _ [2, 3, 4] rfl (by decide +kernel)) ggX8_keep_X8_in
set_option maxRecDepth 100000 in
theorem ggX8_keep_X8_flag : GoodIn wsX8_keep wsX8_flag := goodIn_r _ [8] rfl (by decide +kernel)
set_option maxRecDepth 100000 in
theorem gX8_keep_X8_flag : GoodIn wsX8_keep (va_wsS RX8 197 yX8_flag wsX8_flag) := goodIn_app (goodIn_r _ [6, 7, 4] rfl (by decide +kernel)) ggX8_keep_X8_flag
set_option maxRecDepth 100000 in
theorem ggX8_keep_X8_copies : GoodIn wsX8_keep wsX8_copies := goodIn_r _ [12, 13, 14, 15, 16, 17, 18, 19, 20, 21, 22, 23, 24, 25, 26, 27, 28, 29, 30, 31, 32, 33, 34, 35, 36, 37, 38, 39, 40, 41, 42, 43, 44, 45, 46] rfl (by decide +kernel)
set_option maxRecDepth 100000 in
theorem gX8_keep_X8_copies : GoodIn wsX8_keep (wsV RX8 318 RX8 yX8_copies wsX8_copies) := goodIn_app (goodIn_r _ [9, 10, 11, 4] rfl (by decide +kernel)) ggX8_keep_X8_copies
set_option maxRecDepth 100000 in
theorem ggX8_back_X8_in : GoodIn wsX8_back wsX8_in := goodIn_r _ [6] rfl (by decide +kernel)
set_option maxRecDepth 100000 in
theorem gX8_back_X8_in : GoodIn wsX8_back (va_wsS RX8 90 yX8_in wsX8_in) := goodIn_app (goodIn_r _ [3, 4, 5] rfl (by decide +kernel)) ggX8_back_X8_in
set_option maxRecDepth 100000 in
theorem ggX8_back_X8_copies : GoodIn wsX8_back wsX8_copies := goodIn_r _ [10, 2, 11, 12, 13, 14, 15, 16, 17, 18, 19, 20, 21, 22, 23, 24, 25, 26, 27, 28, 29, 30, 31, 32, 33, 34, 35, 36, 37, 38, 39, 40, 41, 42, 43] rfl (by decide +kernel)
set_option maxRecDepth 100000 in
theorem gX8_back_X8_copies : GoodIn wsX8_back (wsV RX8 318 RX8 yX8_copies wsX8_copies) := goodIn_app (goodIn_r _ [7, 8, 9, 5] rfl (by decide +kernel)) ggX8_back_X8_copies
set_option maxRecDepth 100000 in
theorem ggX8_isSheet_X8_in : GoodIn wsX8_isSheet wsX8_in := goodIn_r _ [6] rfl (by decide +kernel)
set_option maxRecDepth 100000 in
theorem gX8_isSheet_X8_in : GoodIn wsX8_isSheet (va_wsS RX8 90 yX8_in wsX8_in) := goodIn_app (goodIn_r _ [3, 4, 5] rfl (by decide +kernel)) ggX8_isSheet_X8_in
set_option maxRecDepth 100000 in
theorem ggX8_sheet_X8_isSheet : GoodIn wsX8_sheet wsX8_isSheet := goodIn_r _ [7, 8, 9, 10, 11, 6, 12] rfl (by decide +kernel)
set_option maxRecDepth 100000 in
theorem gX8_sheet_X8_isSheet : GoodIn wsX8_sheet (va_wsS RX8 323 yX8_isSheet wsX8_isSheet) := goodIn_app (goodIn_r _ [4, 5, 6] rfl (by decide +kernel)) ggX8_sheet_X8_isSheet
set_option maxRecDepth 100000 in
theorem ggX8_lay_X8_isSheet : GoodIn wsX8_lay wsX8_isSheet := goodIn_r _ [7, 8, 9, 10, 11, 6, 12] rfl (by decide +kernel)
set_option maxRecDepth 100000 in
theorem gX8_lay_X8_isSheet : GoodIn wsX8_lay (va_wsS RX8 323 yX8_isSheet wsX8_isSheet) := goodIn_app (goodIn_r _ [4, 5, 6] rfl (by decide +kernel)) ggX8_lay_X8_isSheet
set_option maxRecDepth 100000 in
theorem ggX8_lay_X8_in : GoodIn wsX8_lay wsX8_in := goodIn_r _ [12] rfl (by decide +kernel)
set_option maxRecDepth 100000 in
theorem gX8_lay_X8_in : GoodIn wsX8_lay (va_wsS RX8 90 yX8_in wsX8_in) := goodIn_app (goodIn_r _ [10, 11, 6] rfl (by decide +kernel)) ggX8_lay_X8_in
set_option maxRecDepth 100000 in
theorem ggX8_read_X8_isSheet : GoodIn wsX8_read wsX8_isSheet := goodIn_r _ [10, 11, 12, 13, 14, 9, 15] rfl (by decide +kernel)
set_option maxRecDepth 100000 in
theorem gX8_read_X8_isSheet : GoodIn wsX8_read (va_wsS RX8 323 yX8_isSheet wsX8_isSheet) := goodIn_app (goodIn_r _ [7, 8, 9] rfl (by decide +kernel)) ggX8_read_X8_isSheet
set_option maxRecDepth 100000 in
theorem ggX8_read_X8_in : GoodIn wsX8_read wsX8_in := goodIn_r _ [15] rfl (by decide +kernel)
set_option maxRecDepth 100000 in
theorem gX8_read_X8_in : GoodIn wsX8_read (va_wsS RX8 90 yX8_in wsX8_in) := goodIn_app (goodIn_r _ [13, 14, 9] rfl (by decide +kernel)) ggX8_read_X8_in
set_option maxRecDepth 100000 in
theorem ggX8_read_X8_vows : GoodIn wsX8_read wsX8_vows := goodIn_r _ [19, 2, 20, 21, 22, 9, 23, 24, 13, 14, 15, 25, 26, 27, 28, 29, 30, 31, 11, 32, 33, 34, 35, 36, 37, 38, 39, 40, 41, 42, 43, 44, 45, 46, 47, 48, 49, 50, 51, 52, 53, 54, 55, 56, 57, 58, 59, 60, 61, 62, 63, 64, 65, 66, 67, 68, 69] rfl (by decide +kernel)
set_option maxRecDepth 100000 in
theorem gX8_read_X8_vows : GoodIn wsX8_read (wsV RX8 326 RX8 yX8_vows wsX8_vows) := goodIn_app (goodIn_r _ [16, 17, 18, 9] rfl (by decide +kernel)) ggX8_read_X8_vows
set_option maxRecDepth 100000 in
theorem ggX8_count_X8_flag : GoodIn wsX8_count wsX8_flag := goodIn_r _ [10] rfl (by decide +kernel)
set_option maxRecDepth 100000 in
theorem gX8_count_X8_flag : GoodIn wsX8_count (va_wsS RX8 197 yX8_flag wsX8_flag) := goodIn_app (goodIn_r _ [7, 8, 9] rfl (by decide +kernel)) ggX8_count_X8_flag
set_option maxRecDepth 100000 in
theorem ggX8_count_X8_lawyersNow : GoodIn wsX8_count wsX8_lawyersNow := goodIn_r _ [14, 2, 1, 18, 19, 20, 21, 22, 23, 24, 25, 26, 27, 28, 29, 30, 31, 32, 33, 34, 35, 36, 37, 38, 39, 40, 41, 42, 43, 44, 45, 46, 47, 48, 49, 50] rfl (by decide +kernel)
set_option maxRecDepth 100000 in
theorem gX8_count_X8_lawyersNow : GoodIn wsX8_count (wsV RX8 272 RX8 yX8_lawyersNow wsX8_lawyersNow) := goodIn_app (goodIn_r _ [11, 12, 13, 9] rfl (by decide +kernel)) ggX8_count_X8_lawyersNow
set_option maxRecDepth 100000 in
theorem ggX8_count_X8_bitsOf : GoodIn wsX8_count wsX8_bitsOf := goodIn_r _ [17] rfl (by decide +kernel)
set_option maxRecDepth 100000 in
theorem gX8_count_X8_bitsOf : GoodIn wsX8_count (va_wsS RX8 233 yX8_bitsOf wsX8_bitsOf) := goodIn_app (goodIn_r _ [15, 16, 9] rfl (by decide +kernel)) ggX8_count_X8_bitsOf
set_option maxRecDepth 100000 in
theorem ggJ0_length_8abf5_J0_coder_7d493 : GoodIn wsJ0_length_8abf5 wsJ0_coder_7d493 := goodIn_r _ [6, 7, 8] rfl (by decide +kernel)
set_option maxRecDepth 100000 in
theorem gJ0_length_8abf5_J0_coder_7d493 : GoodIn wsJ0_length_8abf5 (wsV RJ0 335 RJ0 yJ0_coder_7d493 wsJ0_coder_7d493) := goodIn_app (goodIn_r _ [2, 3, 4, 5] rfl (by decide +kernel)) ggJ0_length_8abf5_J0_coder_7d493
set_option maxRecDepth 100000 in
theorem ggJ0_charAt_5068e_J0_isLatin1_aae02 : GoodIn wsJ0_charAt_5068e wsJ0_isLatin1_aae02 := goodIn_r _ [6, 7, 8] rfl (by decide +kernel)
set_option maxRecDepth 100000 in
theorem gJ0_charAt_5068e_J0_isLatin1_aae02 : GoodIn wsJ0_charAt_5068e (wsV RJ0 492 RJ0 yJ0_isLatin1_aae02 wsJ0_isLatin1_aae02) := goodIn_app (goodIn_r _ [2, 3, 4, 5] rfl (by decide +kernel)) ggJ0_charAt_5068e_J0_isLatin1_aae02
set_option maxRecDepth 100000 in
theorem ggJ0_charAt_5068e_J1_charAt_3b067 : GoodIn wsJ0_charAt_5068e wsJ1_charAt_3b067 := goodIn_r _ [12, 13, 14, 5, 15, 16, 17, 18, 19, 20] rfl (by decide +kernel)
set_option maxRecDepth 100000 in
theorem gJ0_charAt_5068e_J1_charAt_3b067 : GoodIn wsJ0_charAt_5068e (va_wsS RJ0 495 yJ1_charAt_3b067 wsJ1_charAt_3b067) := goodIn_app (goodIn_r _ [9, 10, 11] rfl (by decide +kernel)) ggJ0_charAt_5068e_J1_charAt_3b067
set_option maxRecDepth 100000 in
theorem ggJ0_charAt_5068e_J2_charAt_3b067 : GoodIn wsJ0_charAt_5068e wsJ2_charAt_3b067 := goodIn_r _ [24, 25, 26, 23, 27, 28, 29, 30, 31, 14, 5, 15, 16, 17, 18, 19, 20, 32, 33, 34, 35, 36, 37] rfl (by decide +kernel)
set_option maxRecDepth 100000 in
theorem gJ0_charAt_5068e_J2_charAt_3b067 : GoodIn wsJ0_charAt_5068e (va_wsS RJ0 498 yJ2_charAt_3b067 wsJ2_charAt_3b067) := goodIn_app (goodIn_r _ [21, 22, 23] rfl (by decide +kernel)) ggJ0_charAt_5068e_J2_charAt_3b067
set_option maxRecDepth 100000 in
theorem ggJ0_checkIndex_df160_J3_checkIndex_8e157 : GoodIn wsJ0_checkIndex_df160 wsJ3_checkIndex_8e157 := goodIn_r _ [5] rfl (by decide +kernel)
set_option maxRecDepth 100000 in
theorem gJ0_checkIndex_df160_J3_checkIndex_8e157 : GoodIn wsJ0_checkIndex_df160 (va_wsS RJ0 1059 yJ3_checkIndex_8e157 wsJ3_checkIndex_8e157) := goodIn_app (goodIn_r _ [2, 3, 4] rfl (by decide +kernel)) ggJ0_checkIndex_df160_J3_checkIndex_8e157
set_option maxRecDepth 100000 in
theorem ggJ1_charAt_3b067_J0_checkIndex_df160 : GoodIn wsJ1_charAt_3b067 wsJ0_checkIndex_df160 := goodIn_r _ [4, 5, 6, 7, 8, 9] rfl (by decide +kernel)
set_option maxRecDepth 100000 in
theorem gJ1_charAt_3b067_J0_checkIndex_df160 : GoodIn wsJ1_charAt_3b067 (va_wsS RJ1 9 yJ0_checkIndex_df160 wsJ0_checkIndex_df160) := goodIn_app (goodIn_r _ [1, 2, 3] rfl (by decide +kernel)) ggJ1_charAt_3b067_J0_checkIndex_df160
set_option maxRecDepth 100000 in
theorem ggJ2_getChar_3b067_J2_length_9d52b : GoodIn wsJ2_getChar_3b067 wsJ2_length_9d52b := goodIn_r _ [7] rfl (by decide +kernel)
set_option maxRecDepth 100000 in
theorem gJ2_getChar_3b067_J2_length_9d52b : GoodIn wsJ2_getChar_3b067 (va_wsS RJ2 48 yJ2_length_9d52b wsJ2_length_9d52b) := goodIn_app (goodIn_r _ [4, 5, 6] rfl (by decide +kernel)) ggJ2_getChar_3b067_J2_length_9d52b
set_option maxRecDepth 100000 in
theorem ggJ2_charAt_3b067_J2_checkIndex_2214a : GoodIn wsJ2_charAt_3b067 wsJ2_checkIndex_2214a := goodIn_r _ [4, 5, 6, 3, 7, 8, 9, 10, 11, 12, 13, 14, 15, 16] rfl (by decide +kernel)
set_option maxRecDepth 100000 in
theorem gJ2_charAt_3b067_J2_checkIndex_2214a : GoodIn wsJ2_charAt_3b067 (va_wsS RJ2 67 yJ2_checkIndex_2214a wsJ2_checkIndex_2214a) := goodIn_app (goodIn_r _ [1, 2, 3] rfl (by decide +kernel)) ggJ2_charAt_3b067_J2_checkIndex_2214a
set_option maxRecDepth 100000 in
theorem ggJ2_charAt_3b067_J2_getChar_3b067 : GoodIn wsJ2_charAt_3b067 wsJ2_getChar_3b067 := goodIn_r _ [19, 20, 21, 22, 5, 6, 3, 7] rfl (by decide +kernel)
set_option maxRecDepth 100000 in
theorem gJ2_charAt_3b067_J2_getChar_3b067 : GoodIn wsJ2_charAt_3b067 (va_wsS RJ2 71 yJ2_getChar_3b067 wsJ2_getChar_3b067) := goodIn_app (goodIn_r _ [17, 18, 3] rfl (by decide +kernel)) ggJ2_charAt_3b067_J2_getChar_3b067
set_option maxRecDepth 100000 in
theorem ggJ2_checkIndex_2214a_J2_length_9d52b : GoodIn wsJ2_checkIndex_2214a wsJ2_length_9d52b := goodIn_r _ [4] rfl (by decide +kernel)
set_option maxRecDepth 100000 in
theorem gJ2_checkIndex_2214a_J2_length_9d52b : GoodIn wsJ2_checkIndex_2214a (va_wsS RJ2 48 yJ2_length_9d52b wsJ2_length_9d52b) := goodIn_app (goodIn_r _ [1, 2, 3] rfl (by decide +kernel)) ggJ2_checkIndex_2214a_J2_length_9d52b
set_option maxRecDepth 100000 in
theorem ggJ2_checkIndex_2214a_J0_checkIndex_df160 : GoodIn wsJ2_checkIndex_2214a wsJ0_checkIndex_df160 := goodIn_r _ [8, 9, 10, 11, 12, 13] rfl (by decide +kernel)
set_option maxRecDepth 100000 in
theorem gJ2_checkIndex_2214a_J0_checkIndex_df160 : GoodIn wsJ2_checkIndex_2214a (va_wsS RJ2 414 yJ0_checkIndex_df160 wsJ0_checkIndex_df160) := goodIn_app (goodIn_r _ [5, 6, 7] rfl (by decide +kernel)) ggJ2_checkIndex_2214a_J0_checkIndex_df160
