def zWP : zPr := [(59, 10)]
theorem zWP_b : zWP.all (fun x => Nat.blt x.1 68 && Nat.blt x.2 30) = true := by decide +kernel
set_option maxRecDepth 1000000 in
theorem ag_feed : zagr (zaps 68 30 1 ++ zWP) zWP I_V I_M k_X7_feed_2 k_X8_feed_2 = true := by decide +kernel
set_option maxRecDepth 1000000 in
theorem lk7_feed_2 : zlck k_X7_feed_2 I_V 68 [((-2147483648), 2147483647)] = true := by decide +kernel
set_option maxRecDepth 1000000 in
theorem lk8_feed_2 : zlck k_X8_feed_2 I_M 30 [((-2147483648), 2147483647)] = true := by decide +kernel
set_option maxRecDepth 1000000 in
theorem ag_end : zagr (zaps 68 30 1 ++ zWP) zWP I_V I_M k_X7_end_2 k_X8_end_2 = true := by decide +kernel
set_option maxRecDepth 1000000 in
theorem lk7_end_2 : zlck k_X7_end_2 I_V 68 [((-2147483648), 2147483647)] = true := by decide +kernel
set_option maxRecDepth 1000000 in
theorem lk8_end_2 : zlck k_X8_end_2 I_M 30 [((-2147483648), 2147483647)] = true := by decide +kernel
set_option maxRecDepth 1000000 in
theorem un7_text : zcst k_X7_text I_V (zWP.map Prod.fst) 0 = true := by decide +kernel
set_option maxRecDepth 1000000 in
theorem un8_text : zcst k_X8_text I_M (zWP.map Prod.snd) 0 = true := by decide +kernel
set_option maxRecDepth 1000000 in
theorem un7_fault : zunc k_X7_fault I_V (zWP.map Prod.fst) = true := by decide +kernel
set_option maxRecDepth 1000000 in
theorem un8_fault : zunc k_X8_fault I_M (zWP.map Prod.snd) = true := by decide +kernel
set_option maxRecDepth 1000000 in
theorem un7_rule : zunc k_X7_rule I_V (zWP.map Prod.fst) = true := by decide +kernel
set_option maxRecDepth 1000000 in
theorem un8_rule : zunc k_X8_rule I_M (zWP.map Prod.snd) = true := by decide +kernel
set_option maxRecDepth 1000000 in
theorem un7_house : zunc k_X7_house I_V (zWP.map Prod.fst) = true := by decide +kernel
set_option maxRecDepth 1000000 in
theorem un8_house : zunc k_X8_house I_M (zWP.map Prod.snd) = true := by decide +kernel
set_option maxRecDepth 1000000 in
theorem un7_cost : zunc k_X7_cost I_V (zWP.map Prod.fst) = true := by decide +kernel
set_option maxRecDepth 1000000 in
theorem un8_cost : zunc k_X8_cost I_M (zWP.map Prod.snd) = true := by decide +kernel
set_option maxRecDepth 1000000 in
theorem un7_vow : zunc k_X7_vow I_V (zWP.map Prod.fst) = true := by decide +kernel
set_option maxRecDepth 1000000 in
theorem un8_vow : zunc k_X8_vow I_M (zWP.map Prod.snd) = true := by decide +kernel
set_option maxRecDepth 1000000 in
theorem un7_want : zunc k_X7_want I_V (zWP.map Prod.fst) = true := by decide +kernel
set_option maxRecDepth 1000000 in
theorem un8_want : zunc k_X8_want I_M (zWP.map Prod.snd) = true := by decide +kernel
set_option maxRecDepth 1000000 in
theorem un7_fund : zunc k_X7_fund I_V (zWP.map Prod.fst) = true := by decide +kernel
set_option maxRecDepth 1000000 in
theorem un8_fund : zunc k_X8_fund I_M (zWP.map Prod.snd) = true := by decide +kernel
set_option maxRecDepth 1000000 in
theorem un7_can : zunc k_X7_can I_V (zWP.map Prod.fst) = true := by decide +kernel
set_option maxRecDepth 1000000 in
theorem un8_can : zunc k_X8_can I_M (zWP.map Prod.snd) = true := by decide +kernel
set_option maxRecDepth 1000000 in
theorem un7_lawyer : zunc k_X7_lawyer I_V (zWP.map Prod.fst) = true := by decide +kernel
set_option maxRecDepth 1000000 in
theorem un8_lawyer : zunc k_X8_lawyer I_M (zWP.map Prod.snd) = true := by decide +kernel
set_option maxRecDepth 1000000 in
theorem un7_habit : zunc k_X7_habit I_V (zWP.map Prod.fst) = true := by decide +kernel
set_option maxRecDepth 1000000 in
theorem un8_habit : zunc k_X8_habit I_M (zWP.map Prod.snd) = true := by decide +kernel
set_option maxRecDepth 1000000 in
theorem un7_vows : zunc k_X7_vows I_V (zWP.map Prod.fst) = true := by decide +kernel
set_option maxRecDepth 1000000 in
theorem un8_vows : zunc k_X8_vows I_M (zWP.map Prod.snd) = true := by decide +kernel
set_option maxRecDepth 1000000 in
theorem un7_wish : zunc k_X7_wish I_V (zWP.map Prod.fst) = true := by decide +kernel
set_option maxRecDepth 1000000 in
theorem un8_wish : zunc k_X8_wish I_M (zWP.map Prod.snd) = true := by decide +kernel
set_option maxRecDepth 1000000 in
theorem un7_drop : zunc k_X7_drop I_V (zWP.map Prod.fst) = true := by decide +kernel
set_option maxRecDepth 1000000 in
theorem un8_drop : zunc k_X8_drop I_M (zWP.map Prod.snd) = true := by decide +kernel
set_option maxRecDepth 1000000 in
theorem un7_move : zunc k_X7_move I_V (zWP.map Prod.fst) = true := by decide +kernel
set_option maxRecDepth 1000000 in
theorem un8_move : zunc k_X8_move I_M (zWP.map Prod.snd) = true := by decide +kernel
set_option maxRecDepth 1000000 in
theorem un7_go : zunc k_X7_go I_V (zWP.map Prod.fst) = true := by decide +kernel
set_option maxRecDepth 1000000 in
theorem un8_go : zunc k_X8_go I_M (zWP.map Prod.snd) = true := by decide +kernel
set_option maxRecDepth 1000000 in
theorem un7_ahead : zunc k_X7_ahead I_V (zWP.map Prod.fst) = true := by decide +kernel
set_option maxRecDepth 1000000 in
theorem un8_ahead : zunc k_X8_ahead I_M (zWP.map Prod.snd) = true := by decide +kernel
set_option maxRecDepth 1000000 in
theorem un7_rest : zunc k_X7_rest I_V (zWP.map Prod.fst) = true := by decide +kernel
set_option maxRecDepth 1000000 in
theorem un8_rest : zunc k_X8_rest I_M (zWP.map Prod.snd) = true := by decide +kernel
set_option maxRecDepth 1000000 in
theorem un7_plan : zunc k_X7_plan I_V (zWP.map Prod.fst) = true := by decide +kernel
set_option maxRecDepth 1000000 in
theorem un8_plan : zunc k_X8_plan I_M (zWP.map Prod.snd) = true := by decide +kernel
set_option maxRecDepth 1000000 in
theorem un7_who : zunc k_X7_who I_V (zWP.map Prod.fst) = true := by decide +kernel
set_option maxRecDepth 1000000 in
theorem un8_who : zunc k_X8_who I_M (zWP.map Prod.snd) = true := by decide +kernel
set_option maxRecDepth 1000000 in
theorem un7_ways : zunc k_X7_ways I_V (zWP.map Prod.fst) = true := by decide +kernel
set_option maxRecDepth 1000000 in
theorem un8_ways : zunc k_X8_ways I_M (zWP.map Prod.snd) = true := by decide +kernel
set_option maxRecDepth 1000000 in
theorem un7_ever : zunc k_X7_ever I_V (zWP.map Prod.fst) = true := by decide +kernel
set_option maxRecDepth 1000000 in
theorem un8_ever : zunc k_X8_ever I_M (zWP.map Prod.snd) = true := by decide +kernel
set_option maxRecDepth 1000000 in
theorem un7_stop : zunc k_X7_stop I_V (zWP.map Prod.fst) = true := by decide +kernel
set_option maxRecDepth 1000000 in
theorem un8_stop : zunc k_X8_stop I_M (zWP.map Prod.snd) = true := by decide +kernel
set_option maxRecDepth 1000000 in
theorem un7_best : zunc k_X7_best I_V (zWP.map Prod.fst) = true := by decide +kernel
set_option maxRecDepth 1000000 in
theorem un8_best : zunc k_X8_best I_M (zWP.map Prod.snd) = true := by decide +kernel
set_option maxRecDepth 1000000 in
theorem un7_mean : zunc k_X7_mean I_V (zWP.map Prod.fst) = true := by decide +kernel
set_option maxRecDepth 1000000 in
theorem un8_mean : zunc k_X8_mean I_M (zWP.map Prod.snd) = true := by decide +kernel
set_option maxRecDepth 1000000 in
theorem un7_luck : zunc k_X7_luck I_V (zWP.map Prod.fst) = true := by decide +kernel
set_option maxRecDepth 1000000 in
theorem un8_luck : zunc k_X8_luck I_M (zWP.map Prod.snd) = true := by decide +kernel
set_option maxRecDepth 1000000 in
theorem un7_drift : zunc k_X7_drift I_V (zWP.map Prod.fst) = true := by decide +kernel
set_option maxRecDepth 1000000 in
theorem un8_drift : zunc k_X8_drift I_M (zWP.map Prod.snd) = true := by decide +kernel
set_option maxRecDepth 1000000 in
theorem un7_keep : zunc k_X7_keep I_V (zWP.map Prod.fst) = true := by decide +kernel
set_option maxRecDepth 1000000 in
theorem un8_keep : zunc k_X8_keep I_M (zWP.map Prod.snd) = true := by decide +kernel
set_option maxRecDepth 1000000 in
theorem un7_back : zunc k_X7_back I_V (zWP.map Prod.fst) = true := by decide +kernel
set_option maxRecDepth 1000000 in
theorem un8_back : zunc k_X8_back I_M (zWP.map Prod.snd) = true := by decide +kernel
set_option maxRecDepth 1000000 in
theorem un7_sheet : zunc k_X7_sheet I_V (zWP.map Prod.fst) = true := by decide +kernel
set_option maxRecDepth 1000000 in
theorem un8_sheet : zunc k_X8_sheet_2 I_M (zWP.map Prod.snd) = true := by decide +kernel
set_option maxRecDepth 1000000 in
theorem un7_lay : zunc k_X7_lay I_V (zWP.map Prod.fst) = true := by decide +kernel
set_option maxRecDepth 1000000 in
theorem un8_lay : zunc k_X8_lay I_M (zWP.map Prod.snd) = true := by decide +kernel
set_option maxRecDepth 1000000 in
theorem un7_read : zunc k_X7_read I_V (zWP.map Prod.fst) = true := by decide +kernel
set_option maxRecDepth 1000000 in
theorem un8_read : zunc k_X8_read I_M (zWP.map Prod.snd) = true := by decide +kernel
set_option maxRecDepth 1000000 in
theorem un7_torn : zunc k_X7_torn I_V (zWP.map Prod.fst) = true := by decide +kernel
set_option maxRecDepth 1000000 in
theorem un8_torn : zunc k_X8_torn I_M (zWP.map Prod.snd) = true := by decide +kernel
set_option maxRecDepth 1000000 in
theorem un7_count : zunc k_X7_count I_V (zWP.map Prod.fst) = true := by decide +kernel
set_option maxRecDepth 1000000 in
theorem un8_count : zunc k_X8_count I_M (zWP.map Prod.snd) = true := by decide +kernel
