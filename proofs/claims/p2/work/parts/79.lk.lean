def I_V : zS := (ze_X7_rest, [], [], [], zw12c, [])
set_option maxRecDepth 1000000 in
theorem lk7_feed : zlck k_X7_feed I_V 68 [((-2147483648), 2147483647)] = true := by decide +kernel
set_option maxRecDepth 1000000 in
theorem lk8_feed : zlck k_X8_feed I_M 30 [((-2147483648), 2147483647)] = true := by decide +kernel
set_option maxRecDepth 1000000 in
theorem lk7_end : zlck k_X7_end I_V 68 [((-2147483648), 2147483647)] = true := by decide +kernel
set_option maxRecDepth 1000000 in
theorem lk8_end : zlck k_X8_end I_M 30 [((-2147483648), 2147483647)] = true := by decide +kernel
set_option maxRecDepth 1000000 in
theorem lk7_text : zlck k_X7_text I_V 68 [] = true := by decide +kernel
set_option maxRecDepth 1000000 in
theorem lk8_text : zlck k_X8_text I_M 30 [] = true := by decide +kernel
set_option maxRecDepth 1000000 in
theorem lk7_fault : zlck k_X7_fault I_V 68 [] = true := by decide +kernel
set_option maxRecDepth 1000000 in
theorem lk8_fault : zlck k_X8_fault I_M 30 [] = true := by decide +kernel
set_option maxRecDepth 1000000 in
theorem lk7_rule : zlck k_X7_rule I_V 68 [((-2147483648), 2147483647)] = true := by decide +kernel
set_option maxRecDepth 1000000 in
theorem lk8_rule : zlck k_X8_rule I_M 30 [((-2147483648), 2147483647)] = true := by decide +kernel
set_option maxRecDepth 1000000 in
theorem lk7_house : zlck k_X7_house I_V 68 [((-2147483648), 2147483647), ((-2147483648), 2147483647)] = true := by decide +kernel
set_option maxRecDepth 1000000 in
theorem lk8_house : zlck k_X8_house I_M 30 [((-2147483648), 2147483647), ((-2147483648), 2147483647)] = true := by decide +kernel
set_option maxRecDepth 1000000 in
theorem lk7_cost : zlck k_X7_cost I_V 68 [((-2147483648), 2147483647)] = true := by decide +kernel
set_option maxRecDepth 1000000 in
theorem lk8_cost : zlck k_X8_cost I_M 30 [((-2147483648), 2147483647)] = true := by decide +kernel
set_option maxRecDepth 1000000 in
theorem lk7_vow : zlck k_X7_vow I_V 68 [((-2147483648), 2147483647), ((-2147483648), 2147483647)] = true := by decide +kernel
set_option maxRecDepth 1000000 in
theorem lk8_vow : zlck k_X8_vow I_M 30 [((-2147483648), 2147483647), ((-2147483648), 2147483647)] = true := by decide +kernel
set_option maxRecDepth 1000000 in
theorem lk7_want : zlck k_X7_want I_V 68 [((-2147483648), 2147483647), ((-2147483648), 2147483647)] = true := by decide +kernel
set_option maxRecDepth 1000000 in
theorem lk8_want : zlck k_X8_want I_M 30 [((-2147483648), 2147483647), ((-2147483648), 2147483647)] = true := by decide +kernel
set_option maxRecDepth 1000000 in
theorem lk7_fund : zlck k_X7_fund I_V 68 [((-2147483648), 2147483647), ((-2147483648), 2147483647)] = true := by decide +kernel
set_option maxRecDepth 1000000 in
theorem lk8_fund : zlck k_X8_fund I_M 30 [((-2147483648), 2147483647), ((-2147483648), 2147483647)] = true := by decide +kernel
set_option maxRecDepth 1000000 in
theorem lk7_can : zlck k_X7_can I_V 68 [((-2147483648), 2147483647), ((-2147483648), 2147483647), (0, 1)] = true := by decide +kernel
set_option maxRecDepth 1000000 in
theorem lk8_can : zlck k_X8_can I_M 30 [((-2147483648), 2147483647), ((-2147483648), 2147483647), (0, 1)] = true := by decide +kernel
set_option maxRecDepth 1000000 in
theorem lk7_lawyer : zlck k_X7_lawyer I_V 68 [((-2147483648), 2147483647), (0, 1)] = true := by decide +kernel
set_option maxRecDepth 1000000 in
theorem lk8_lawyer : zlck k_X8_lawyer I_M 30 [((-2147483648), 2147483647), (0, 1)] = true := by decide +kernel
set_option maxRecDepth 1000000 in
theorem lk7_habit : zlck k_X7_habit I_V 68 [((-2147483648), 2147483647), ((-2147483648), 2147483647), ((-2147483648), 2147483647), ((-2147483648), 2147483647)] = true := by decide +kernel
set_option maxRecDepth 1000000 in
theorem lk8_habit : zlck k_X8_habit I_M 30 [((-2147483648), 2147483647), ((-2147483648), 2147483647), ((-2147483648), 2147483647), ((-2147483648), 2147483647)] = true := by decide +kernel
set_option maxRecDepth 1000000 in
theorem lk7_vows : zlck k_X7_vows I_V 68 [((-2147483648), 2147483647), ((-2147483648), 2147483647), ((-2147483648), 2147483647), ((-2147483648), 2147483647)] = true := by decide +kernel
set_option maxRecDepth 1000000 in
theorem lk8_vows : zlck k_X8_vows I_M 30 [((-2147483648), 2147483647), ((-2147483648), 2147483647), ((-2147483648), 2147483647), ((-2147483648), 2147483647)] = true := by decide +kernel
set_option maxRecDepth 1000000 in
theorem lk7_wish : zlck k_X7_wish I_V 68 [((-2147483648), 2147483647), ((-2147483648), 2147483647)] = true := by decide +kernel
set_option maxRecDepth 1000000 in
theorem lk8_wish : zlck k_X8_wish I_M 30 [((-2147483648), 2147483647), ((-2147483648), 2147483647)] = true := by decide +kernel
set_option maxRecDepth 1000000 in
theorem lk7_drop : zlck k_X7_drop I_V 68 [((-2147483648), 2147483647), ((-2147483648), 2147483647)] = true := by decide +kernel
set_option maxRecDepth 1000000 in
theorem lk8_drop : zlck k_X8_drop I_M 30 [((-2147483648), 2147483647), ((-2147483648), 2147483647)] = true := by decide +kernel
set_option maxRecDepth 1000000 in
theorem lk7_move : zlck k_X7_move I_V 68 [((-2147483648), 2147483647), ((-2147483648), 2147483647)] = true := by decide +kernel
set_option maxRecDepth 1000000 in
theorem lk8_move : zlck k_X8_move I_M 30 [((-2147483648), 2147483647), ((-2147483648), 2147483647)] = true := by decide +kernel
set_option maxRecDepth 1000000 in
theorem lk7_go : zlck k_X7_go I_V 68 [((-2147483648), 2147483647)] = true := by decide +kernel
set_option maxRecDepth 1000000 in
theorem lk8_go : zlck k_X8_go I_M 30 [((-2147483648), 2147483647)] = true := by decide +kernel
set_option maxRecDepth 1000000 in
theorem lk7_ahead : zlck k_X7_ahead I_V 68 [((-2147483648), 2147483647), ((-2147483648), 2147483647), ((-2147483648), 2147483647)] = true := by decide +kernel
set_option maxRecDepth 1000000 in
theorem lk8_ahead : zlck k_X8_ahead I_M 30 [((-2147483648), 2147483647), ((-2147483648), 2147483647), ((-2147483648), 2147483647)] = true := by decide +kernel
set_option maxRecDepth 1000000 in
theorem lk7_rest : zlck k_X7_rest I_V 68 [] = true := by decide +kernel
set_option maxRecDepth 1000000 in
theorem lk8_rest : zlck k_X8_rest I_M 30 [] = true := by decide +kernel
set_option maxRecDepth 1000000 in
theorem lk7_plan : zlck k_X7_plan I_V 68 [((-2147483648), 2147483647)] = true := by decide +kernel
set_option maxRecDepth 1000000 in
theorem lk8_plan : zlck k_X8_plan I_M 30 [((-2147483648), 2147483647)] = true := by decide +kernel
set_option maxRecDepth 1000000 in
theorem lk7_who : zlck k_X7_who I_V 68 [((-2147483648), 2147483647), ((-2147483648), 2147483647), ((-2147483648), 2147483647)] = true := by decide +kernel
set_option maxRecDepth 1000000 in
theorem lk8_who : zlck k_X8_who I_M 30 [((-2147483648), 2147483647), ((-2147483648), 2147483647), ((-2147483648), 2147483647)] = true := by decide +kernel
set_option maxRecDepth 1000000 in
theorem lk7_ways : zlck k_X7_ways I_V 68 [((-2147483648), 2147483647), ((-2147483648), 2147483647), ((-2147483648), 2147483647)] = true := by decide +kernel
set_option maxRecDepth 1000000 in
theorem lk8_ways : zlck k_X8_ways I_M 30 [((-2147483648), 2147483647), ((-2147483648), 2147483647), ((-2147483648), 2147483647)] = true := by decide +kernel
set_option maxRecDepth 1000000 in
theorem lk7_ever : zlck k_X7_ever I_V 68 [] = true := by decide +kernel
set_option maxRecDepth 1000000 in
theorem lk8_ever : zlck k_X8_ever I_M 30 [] = true := by decide +kernel
set_option maxRecDepth 1000000 in
theorem lk7_stop : zlck k_X7_stop I_V 68 [((-2147483648), 2147483647)] = true := by decide +kernel
set_option maxRecDepth 1000000 in
theorem lk8_stop : zlck k_X8_stop I_M 30 [((-2147483648), 2147483647)] = true := by decide +kernel
set_option maxRecDepth 1000000 in
theorem lk7_best : zlck k_X7_best I_V 68 [((-2147483648), 2147483647), ((-2147483648), 2147483647)] = true := by decide +kernel
set_option maxRecDepth 1000000 in
theorem lk8_best : zlck k_X8_best I_M 30 [((-2147483648), 2147483647), ((-2147483648), 2147483647)] = true := by decide +kernel
set_option maxRecDepth 1000000 in
theorem lk7_mean : zlck k_X7_mean I_V 68 [((-2147483648), 2147483647), ((-2147483648), 2147483647)] = true := by decide +kernel
set_option maxRecDepth 1000000 in
theorem lk8_mean : zlck k_X8_mean I_M 30 [((-2147483648), 2147483647), ((-2147483648), 2147483647)] = true := by decide +kernel
set_option maxRecDepth 1000000 in
theorem lk7_luck : zlck k_X7_luck I_V 68 [((-2147483648), 2147483647), ((-2147483648), 2147483647)] = true := by decide +kernel
set_option maxRecDepth 1000000 in
theorem lk8_luck : zlck k_X8_luck I_M 30 [((-2147483648), 2147483647), ((-2147483648), 2147483647)] = true := by decide +kernel
set_option maxRecDepth 1000000 in
theorem lk7_drift : zlck k_X7_drift I_V 68 [((-2147483648), 2147483647), ((-2147483648), 2147483647), ((-2147483648), 2147483647)] = true := by decide +kernel
set_option maxRecDepth 1000000 in
theorem lk8_drift : zlck k_X8_drift I_M 30 [((-2147483648), 2147483647), ((-2147483648), 2147483647), ((-2147483648), 2147483647)] = true := by decide +kernel
set_option maxRecDepth 1000000 in
theorem lk7_keep : zlck k_X7_keep I_V 68 [((-2147483648), 2147483647)] = true := by decide +kernel
set_option maxRecDepth 1000000 in
theorem lk8_keep : zlck k_X8_keep I_M 30 [((-2147483648), 2147483647)] = true := by decide +kernel
set_option maxRecDepth 1000000 in
theorem lk7_back : zlck k_X7_back I_V 68 [((-2147483648), 2147483647)] = true := by decide +kernel
set_option maxRecDepth 1000000 in
theorem lk8_back : zlck k_X8_back I_M 30 [((-2147483648), 2147483647)] = true := by decide +kernel
set_option maxRecDepth 1000000 in
theorem lk7_sheet : zlck k_X7_sheet I_V 68 [((-2147483648), 2147483647), ((-2147483648), 2147483647), ((-2147483648), 2147483647)] = true := by decide +kernel
set_option maxRecDepth 1000000 in
theorem lk8_sheet : zlck k_X8_sheet_2 I_M 30 [((-2147483648), 2147483647), ((-2147483648), 2147483647), ((-2147483648), 2147483647)] = true := by decide +kernel
set_option maxRecDepth 1000000 in
theorem lk7_lay : zlck k_X7_lay I_V 68 [((-2147483648), 2147483647), ((-2147483648), 2147483647), ((-2147483648), 2147483647)] = true := by decide +kernel
set_option maxRecDepth 1000000 in
theorem lk8_lay : zlck k_X8_lay I_M 30 [((-2147483648), 2147483647), ((-2147483648), 2147483647), ((-2147483648), 2147483647)] = true := by decide +kernel
set_option maxRecDepth 1000000 in
theorem lk7_read : zlck k_X7_read I_V 68 [((-2147483648), 2147483647), ((-2147483648), 2147483647), ((-2147483648), 2147483647), ((-2147483648), 2147483647)] = true := by decide +kernel
set_option maxRecDepth 1000000 in
theorem lk8_read : zlck k_X8_read I_M 30 [((-2147483648), 2147483647), ((-2147483648), 2147483647), ((-2147483648), 2147483647), ((-2147483648), 2147483647)] = true := by decide +kernel
set_option maxRecDepth 1000000 in
theorem lk7_torn : zlck k_X7_torn I_V 68 [] = true := by decide +kernel
set_option maxRecDepth 1000000 in
theorem lk8_torn : zlck k_X8_torn I_M 30 [] = true := by decide +kernel
set_option maxRecDepth 1000000 in
theorem lk7_count : zlck k_X7_count I_V 68 [((-2147483648), 2147483647)] = true := by decide +kernel
set_option maxRecDepth 1000000 in
theorem lk8_count : zlck k_X8_count I_M 30 [((-2147483648), 2147483647)] = true := by decide +kernel
