/-! printed by wip/gen/gen15.py: the method tables are right -/
set_option maxRecDepth 100000 in
theorem xd_X0_init : xm_dec xM_X0_init = true := by decide +kernel
set_option maxRecDepth 100000 in
theorem xk_X0_init : xm_chkM xSL xZL xQL xCI xCJ 0 xM_X0_init = true := by decide +kernel
theorem xo_X0_init : xm_okM xSL xZL xQL xX xM_X0_init := xm_okM_of xtabs (o := 0) rfl xk_X0_init xd_X0_init
set_option maxRecDepth 100000 in
theorem xd_X1_init : xm_dec xM_X1_init = true := by decide +kernel
set_option maxRecDepth 100000 in
theorem xk_X1_init : xm_chkM xSL xZL xQL xCI xCJ 1 xM_X1_init = true := by decide +kernel
theorem xo_X1_init : xm_okM xSL xZL xQL xX xM_X1_init := xm_okM_of xtabs (o := 1) rfl xk_X1_init xd_X1_init
set_option maxRecDepth 100000 in
theorem xd_X1_begin : xm_dec xM_X1_begin = true := by decide +kernel
set_option maxRecDepth 100000 in
theorem xk_X1_begin : xm_chkM xSL xZL xQL xCI xCJ 1 xM_X1_begin = true := by decide +kernel
theorem xo_X1_begin : xm_okM xSL xZL xQL xX xM_X1_begin := xm_okM_of xtabs (o := 1) rfl xk_X1_begin xd_X1_begin
set_option maxRecDepth 100000 in
theorem xd_X1_share : xm_dec xM_X1_share = true := by decide +kernel
set_option maxRecDepth 100000 in
theorem xk_X1_share : xm_chkM xSL xZL xQL xCI xCJ 1 xM_X1_share = true := by decide +kernel
theorem xo_X1_share : xm_okM xSL xZL xQL xX xM_X1_share := xm_okM_of xtabs (o := 1) rfl xk_X1_share xd_X1_share
set_option maxRecDepth 100000 in
theorem xd_X1_creditOf : xm_dec xM_X1_creditOf = true := by decide +kernel
set_option maxRecDepth 100000 in
theorem xk_X1_creditOf : xm_chkM xSL xZL xQL xCI xCJ 1 xM_X1_creditOf = true := by decide +kernel
theorem xo_X1_creditOf : xm_okM xSL xZL xQL xX xM_X1_creditOf := xm_okM_of xtabs (o := 1) rfl xk_X1_creditOf xd_X1_creditOf
set_option maxRecDepth 100000 in
theorem xd_X2_init : xm_dec xM_X2_init = true := by decide +kernel
set_option maxRecDepth 100000 in
theorem xk_X2_init : xm_chkM xSL xZL xQL xCI xCJ 2 xM_X2_init = true := by decide +kernel
theorem xo_X2_init : xm_okM xSL xZL xQL xX xM_X2_init := xm_okM_of xtabs (o := 2) rfl xk_X2_init xd_X2_init
set_option maxRecDepth 100000 in
theorem xd_X2_open : xm_dec xM_X2_open = true := by decide +kernel
set_option maxRecDepth 100000 in
theorem xk_X2_open : xm_chkM xSL xZL xQL xCI xCJ 2 xM_X2_open = true := by decide +kernel
theorem xo_X2_open : xm_okM xSL xZL xQL xX xM_X2_open := xm_okM_of xtabs (o := 2) rfl xk_X2_open xd_X2_open
set_option maxRecDepth 100000 in
theorem xd_X2_pacedBid : xm_dec xM_X2_pacedBid = true := by decide +kernel
set_option maxRecDepth 100000 in
theorem xk_X2_pacedBid : xm_chkM xSL xZL xQL xCI xCJ 2 xM_X2_pacedBid = true := by decide +kernel
theorem xo_X2_pacedBid : xm_okM xSL xZL xQL xX xM_X2_pacedBid := xm_okM_of xtabs (o := 2) rfl xk_X2_pacedBid xd_X2_pacedBid
set_option maxRecDepth 100000 in
theorem xd_X2_perCent : xm_dec xM_X2_perCent = true := by decide +kernel
set_option maxRecDepth 100000 in
theorem xk_X2_perCent : xm_chkM xSL xZL xQL xCI xCJ 2 xM_X2_perCent = true := by decide +kernel
theorem xo_X2_perCent : xm_okM xSL xZL xQL xX xM_X2_perCent := xm_okM_of xtabs (o := 2) rfl xk_X2_perCent xd_X2_perCent
set_option maxRecDepth 100000 in
theorem xd_X2_planned : xm_dec xM_X2_planned = true := by decide +kernel
set_option maxRecDepth 100000 in
theorem xk_X2_planned : xm_chkM xSL xZL xQL xCI xCJ 2 xM_X2_planned = true := by decide +kernel
theorem xo_X2_planned : xm_okM xSL xZL xQL xX xM_X2_planned := xm_okM_of xtabs (o := 2) rfl xk_X2_planned xd_X2_planned
set_option maxRecDepth 100000 in
theorem xd_X2_moneyLeft : xm_dec xM_X2_moneyLeft = true := by decide +kernel
set_option maxRecDepth 100000 in
theorem xk_X2_moneyLeft : xm_chkM xSL xZL xQL xCI xCJ 2 xM_X2_moneyLeft = true := by decide +kernel
theorem xo_X2_moneyLeft : xm_okM xSL xZL xQL xX xM_X2_moneyLeft := xm_okM_of xtabs (o := 2) rfl xk_X2_moneyLeft xd_X2_moneyLeft
set_option maxRecDepth 100000 in
theorem xd_X2_passTick : xm_dec xM_X2_passTick = true := by decide +kernel
set_option maxRecDepth 100000 in
theorem xk_X2_passTick : xm_chkM xSL xZL xQL xCI xCJ 2 xM_X2_passTick = true := by decide +kernel
theorem xo_X2_passTick : xm_okM xSL xZL xQL xX xM_X2_passTick := xm_okM_of xtabs (o := 2) rfl xk_X2_passTick xd_X2_passTick
set_option maxRecDepth 100000 in
theorem xd_X2_control : xm_dec xM_X2_control = true := by decide +kernel
set_option maxRecDepth 100000 in
theorem xk_X2_control : xm_chkM xSL xZL xQL xCI xCJ 2 xM_X2_control = true := by decide +kernel
theorem xo_X2_control : xm_okM xSL xZL xQL xX xM_X2_control := xm_okM_of xtabs (o := 2) rfl xk_X2_control xd_X2_control
set_option maxRecDepth 100000 in
theorem xd_X2_countRecents : xm_dec xM_X2_countRecents = true := by decide +kernel
set_option maxRecDepth 100000 in
theorem xk_X2_countRecents : xm_chkM xSL xZL xQL xCI xCJ 2 xM_X2_countRecents = true := by decide +kernel
theorem xo_X2_countRecents : xm_okM xSL xZL xQL xX xM_X2_countRecents := xm_okM_of xtabs (o := 2) rfl xk_X2_countRecents xd_X2_countRecents
set_option maxRecDepth 100000 in
theorem xd_X2_reasonAgainst : xm_dec xM_X2_reasonAgainst = true := by decide +kernel
set_option maxRecDepth 100000 in
theorem xk_X2_reasonAgainst : xm_chkM xSL xZL xQL xCI xCJ 2 xM_X2_reasonAgainst = true := by decide +kernel
theorem xo_X2_reasonAgainst : xm_okM xSL xZL xQL xX xM_X2_reasonAgainst := xm_okM_of xtabs (o := 2) rfl xk_X2_reasonAgainst xd_X2_reasonAgainst
set_option maxRecDepth 100000 in
theorem xd_X2_rank : xm_dec xM_X2_rank = true := by decide +kernel
set_option maxRecDepth 100000 in
theorem xk_X2_rank : xm_chkM xSL xZL xQL xCI xCJ 2 xM_X2_rank = true := by decide +kernel
theorem xo_X2_rank : xm_okM xSL xZL xQL xX xM_X2_rank := xm_okM_of xtabs (o := 2) rfl xk_X2_rank xd_X2_rank
set_option maxRecDepth 100000 in
theorem xd_X2_insert : xm_dec xM_X2_insert = true := by decide +kernel
set_option maxRecDepth 100000 in
theorem xk_X2_insert : xm_chkM xSL xZL xQL xCI xCJ 2 xM_X2_insert = true := by decide +kernel
theorem xo_X2_insert : xm_okM xSL xZL xQL xX xM_X2_insert := xm_okM_of xtabs (o := 2) rfl xk_X2_insert xd_X2_insert
set_option maxRecDepth 100000 in
theorem xd_X2_fill : xm_dec xM_X2_fill = true := by decide +kernel
set_option maxRecDepth 100000 in
theorem xk_X2_fill : xm_chkM xSL xZL xQL xCI xCJ 2 xM_X2_fill = true := by decide +kernel
theorem xo_X2_fill : xm_okM xSL xZL xQL xX xM_X2_fill := xm_okM_of xtabs (o := 2) rfl xk_X2_fill xd_X2_fill
set_option maxRecDepth 100000 in
theorem xd_X2_basePrice : xm_dec xM_X2_basePrice = true := by decide +kernel
set_option maxRecDepth 100000 in
theorem xk_X2_basePrice : xm_chkM xSL xZL xQL xCI xCJ 2 xM_X2_basePrice = true := by decide +kernel
theorem xo_X2_basePrice : xm_okM xSL xZL xQL xX xM_X2_basePrice := xm_okM_of xtabs (o := 2) rfl xk_X2_basePrice xd_X2_basePrice
set_option maxRecDepth 100000 in
theorem xd_X2_serve : xm_dec xM_X2_serve = true := by decide +kernel
set_option maxRecDepth 100000 in
theorem xk_X2_serve : xm_chkM xSL xZL xQL xCI xCJ 2 xM_X2_serve = true := by decide +kernel
theorem xo_X2_serve : xm_okM xSL xZL xQL xX xM_X2_serve := xm_okM_of xtabs (o := 2) rfl xk_X2_serve xd_X2_serve
set_option maxRecDepth 100000 in
theorem xd_X2_record : xm_dec xM_X2_record = true := by decide +kernel
set_option maxRecDepth 100000 in
theorem xk_X2_record : xm_chkM xSL xZL xQL xCI xCJ 2 xM_X2_record = true := by decide +kernel
theorem xo_X2_record : xm_okM xSL xZL xQL xX xM_X2_record := xm_okM_of xtabs (o := 2) rfl xk_X2_record xd_X2_record
set_option maxRecDepth 100000 in
theorem xd_X2_leastWinningBid : xm_dec xM_X2_leastWinningBid = true := by decide +kernel
set_option maxRecDepth 100000 in
theorem xk_X2_leastWinningBid : xm_chkM xSL xZL xQL xCI xCJ 2 xM_X2_leastWinningBid = true := by decide +kernel
theorem xo_X2_leastWinningBid : xm_okM xSL xZL xQL xX xM_X2_leastWinningBid := xm_okM_of xtabs (o := 2) rfl xk_X2_leastWinningBid xd_X2_leastWinningBid
set_option maxRecDepth 100000 in
theorem xd_X2_leastPacedBid : xm_dec xM_X2_leastPacedBid = true := by decide +kernel
set_option maxRecDepth 100000 in
theorem xk_X2_leastPacedBid : xm_chkM xSL xZL xQL xCI xCJ 2 xM_X2_leastPacedBid = true := by decide +kernel
theorem xo_X2_leastPacedBid : xm_okM xSL xZL xQL xX xM_X2_leastPacedBid := xm_okM_of xtabs (o := 2) rfl xk_X2_leastPacedBid xd_X2_leastPacedBid
set_option maxRecDepth 100000 in
theorem xd_X2_mostEarningFloor : xm_dec xM_X2_mostEarningFloor = true := by decide +kernel
set_option maxRecDepth 100000 in
theorem xk_X2_mostEarningFloor : xm_chkM xSL xZL xQL xCI xCJ 2 xM_X2_mostEarningFloor = true := by decide +kernel
theorem xo_X2_mostEarningFloor : xm_okM xSL xZL xQL xX xM_X2_mostEarningFloor := xm_okM_of xtabs (o := 2) rfl xk_X2_mostEarningFloor xd_X2_mostEarningFloor
set_option maxRecDepth 100000 in
theorem xd_X2_leastFloorEarning : xm_dec xM_X2_leastFloorEarning = true := by decide +kernel
set_option maxRecDepth 100000 in
theorem xk_X2_leastFloorEarning : xm_chkM xSL xZL xQL xCI xCJ 2 xM_X2_leastFloorEarning = true := by decide +kernel
theorem xo_X2_leastFloorEarning : xm_okM xSL xZL xQL xX xM_X2_leastFloorEarning := xm_okM_of xtabs (o := 2) rfl xk_X2_leastFloorEarning xd_X2_leastFloorEarning
set_option maxRecDepth 100000 in
theorem xd_X2_earningsAt : xm_dec xM_X2_earningsAt = true := by decide +kernel
set_option maxRecDepth 100000 in
theorem xk_X2_earningsAt : xm_chkM xSL xZL xQL xCI xCJ 2 xM_X2_earningsAt = true := by decide +kernel
theorem xo_X2_earningsAt : xm_okM xSL xZL xQL xX xM_X2_earningsAt := xm_okM_of xtabs (o := 2) rfl xk_X2_earningsAt xd_X2_earningsAt
set_option maxRecDepth 100000 in
theorem xd_X3_init : xm_dec xM_X3_init = true := by decide +kernel
set_option maxRecDepth 100000 in
theorem xk_X3_init : xm_chkM xSL xZL xQL xCI xCJ 3 xM_X3_init = true := by decide +kernel
theorem xo_X3_init : xm_okM xSL xZL xQL xX xM_X3_init := xm_okM_of xtabs (o := 3) rfl xk_X3_init xd_X3_init
set_option maxRecDepth 100000 in
theorem xd_X3_remember : xm_dec xM_X3_remember = true := by decide +kernel
set_option maxRecDepth 100000 in
theorem xk_X3_remember : xm_chkM xSL xZL xQL xCI xCJ 3 xM_X3_remember = true := by decide +kernel
theorem xo_X3_remember : xm_okM xSL xZL xQL xX xM_X3_remember := xm_okM_of xtabs (o := 3) rfl xk_X3_remember xd_X3_remember
set_option maxRecDepth 100000 in
theorem xd_X3_restore : xm_dec xM_X3_restore = true := by decide +kernel
set_option maxRecDepth 100000 in
theorem xk_X3_restore : xm_chkM xSL xZL xQL xCI xCJ 3 xM_X3_restore = true := by decide +kernel
theorem xo_X3_restore : xm_okM xSL xZL xQL xX xM_X3_restore := xm_okM_of xtabs (o := 3) rfl xk_X3_restore xd_X3_restore
set_option maxRecDepth 100000 in
theorem xd_X3_forget : xm_dec xM_X3_forget = true := by decide +kernel
set_option maxRecDepth 100000 in
theorem xk_X3_forget : xm_chkM xSL xZL xQL xCI xCJ 3 xM_X3_forget = true := by decide +kernel
theorem xo_X3_forget : xm_okM xSL xZL xQL xX xM_X3_forget := xm_okM_of xtabs (o := 3) rfl xk_X3_forget xd_X3_forget
set_option maxRecDepth 100000 in
theorem xd_X4_init : xm_dec xM_X4_init = true := by decide +kernel
set_option maxRecDepth 100000 in
theorem xk_X4_init : xm_chkM xSL xZL xQL xCI xCJ 4 xM_X4_init = true := by decide +kernel
theorem xo_X4_init : xm_okM xSL xZL xQL xX xM_X4_init := xm_okM_of xtabs (o := 4) rfl xk_X4_init xd_X4_init
set_option maxRecDepth 100000 in
theorem xd_X4_part : xm_dec xM_X4_part = true := by decide +kernel
set_option maxRecDepth 100000 in
theorem xk_X4_part : xm_chkM xSL xZL xQL xCI xCJ 4 xM_X4_part = true := by decide +kernel
theorem xo_X4_part : xm_okM xSL xZL xQL xX xM_X4_part := xm_okM_of xtabs (o := 4) rfl xk_X4_part xd_X4_part
set_option maxRecDepth 100000 in
theorem xd_X4_priceSum : xm_dec xM_X4_priceSum = true := by decide +kernel
set_option maxRecDepth 100000 in
theorem xk_X4_priceSum : xm_chkM xSL xZL xQL xCI xCJ 4 xM_X4_priceSum = true := by decide +kernel
theorem xo_X4_priceSum : xm_okM xSL xZL xQL xX xM_X4_priceSum := xm_okM_of xtabs (o := 4) rfl xk_X4_priceSum xd_X4_priceSum
set_option maxRecDepth 100000 in
theorem xd_X4_countOf : xm_dec xM_X4_countOf = true := by decide +kernel
set_option maxRecDepth 100000 in
theorem xk_X4_countOf : xm_chkM xSL xZL xQL xCI xCJ 4 xM_X4_countOf = true := by decide +kernel
theorem xo_X4_countOf : xm_okM xSL xZL xQL xX xM_X4_countOf := xm_okM_of xtabs (o := 4) rfl xk_X4_countOf xd_X4_countOf
set_option maxRecDepth 100000 in
theorem xd_X4_countTo : xm_dec xM_X4_countTo = true := by decide +kernel
set_option maxRecDepth 100000 in
theorem xk_X4_countTo : xm_chkM xSL xZL xQL xCI xCJ 4 xM_X4_countTo = true := by decide +kernel
theorem xo_X4_countTo : xm_okM xSL xZL xQL xX xM_X4_countTo := xm_okM_of xtabs (o := 4) rfl xk_X4_countTo xd_X4_countTo
set_option maxRecDepth 100000 in
theorem xd_X4_usersReached : xm_dec xM_X4_usersReached = true := by decide +kernel
set_option maxRecDepth 100000 in
theorem xk_X4_usersReached : xm_chkM xSL xZL xQL xCI xCJ 4 xM_X4_usersReached = true := by decide +kernel
theorem xo_X4_usersReached : xm_okM xSL xZL xQL xX xM_X4_usersReached := xm_okM_of xtabs (o := 4) rfl xk_X4_usersReached xd_X4_usersReached
set_option maxRecDepth 100000 in
theorem xd_X5_init : xm_dec xM_X5_init = true := by decide +kernel
set_option maxRecDepth 100000 in
theorem xk_X5_init : xm_chkM xSL xZL xQL xCI xCJ 5 xM_X5_init = true := by decide +kernel
theorem xo_X5_init : xm_okM xSL xZL xQL xX xM_X5_init := xm_okM_of xtabs (o := 5) rfl xk_X5_init xd_X5_init
set_option maxRecDepth 100000 in
theorem xd_X5_read : xm_dec xM_X5_read = true := by decide +kernel
set_option maxRecDepth 100000 in
theorem xk_X5_read : xm_chkM xSL xZL xQL xCI xCJ 5 xM_X5_read = true := by decide +kernel
theorem xo_X5_read : xm_okM xSL xZL xQL xX xM_X5_read := xm_okM_of xtabs (o := 5) rfl xk_X5_read xd_X5_read
set_option maxRecDepth 100000 in
theorem xd_X5_statement : xm_dec xM_X5_statement = true := by decide +kernel
set_option maxRecDepth 100000 in
theorem xk_X5_statement : xm_chkM xSL xZL xQL xCI xCJ 5 xM_X5_statement = true := by decide +kernel
theorem xo_X5_statement : xm_okM xSL xZL xQL xX xM_X5_statement := xm_okM_of xtabs (o := 5) rfl xk_X5_statement xd_X5_statement
set_option maxRecDepth 100000 in
theorem xd_X5_day : xm_dec xM_X5_day = true := by decide +kernel
set_option maxRecDepth 100000 in
theorem xk_X5_day : xm_chkM xSL xZL xQL xCI xCJ 5 xM_X5_day = true := by decide +kernel
theorem xo_X5_day : xm_okM xSL xZL xQL xX xM_X5_day := xm_okM_of xtabs (o := 5) rfl xk_X5_day xd_X5_day
set_option maxRecDepth 100000 in
theorem xd_X5_attribution : xm_dec xM_X5_attribution = true := by decide +kernel
set_option maxRecDepth 100000 in
theorem xk_X5_attribution : xm_chkM xSL xZL xQL xCI xCJ 5 xM_X5_attribution = true := by decide +kernel
theorem xo_X5_attribution : xm_okM xSL xZL xQL xX xM_X5_attribution := xm_okM_of xtabs (o := 5) rfl xk_X5_attribution xd_X5_attribution
set_option maxRecDepth 100000 in
theorem xd_X5_factors : xm_dec xM_X5_factors = true := by decide +kernel
set_option maxRecDepth 100000 in
theorem xk_X5_factors : xm_chkM xSL xZL xQL xCI xCJ 5 xM_X5_factors = true := by decide +kernel
theorem xo_X5_factors : xm_okM xSL xZL xQL xX xM_X5_factors := xm_okM_of xtabs (o := 5) rfl xk_X5_factors xd_X5_factors
set_option maxRecDepth 100000 in
theorem xd_X5_newTag : xm_dec xM_X5_newTag = true := by decide +kernel
set_option maxRecDepth 100000 in
theorem xk_X5_newTag : xm_chkM xSL xZL xQL xCI xCJ 5 xM_X5_newTag = true := by decide +kernel
theorem xo_X5_newTag : xm_okM xSL xZL xQL xX xM_X5_newTag := xm_okM_of xtabs (o := 5) rfl xk_X5_newTag xd_X5_newTag
set_option maxRecDepth 100000 in
theorem xd_X5_newCampaign : xm_dec xM_X5_newCampaign = true := by decide +kernel
set_option maxRecDepth 100000 in
theorem xk_X5_newCampaign : xm_chkM xSL xZL xQL xCI xCJ 5 xM_X5_newCampaign = true := by decide +kernel
theorem xo_X5_newCampaign : xm_okM xSL xZL xQL xX xM_X5_newCampaign := xm_okM_of xtabs (o := 5) rfl xk_X5_newCampaign xd_X5_newCampaign
set_option maxRecDepth 100000 in
theorem xd_X5_takeTarget : xm_dec xM_X5_takeTarget = true := by decide +kernel
set_option maxRecDepth 100000 in
theorem xk_X5_takeTarget : xm_chkM xSL xZL xQL xCI xCJ 5 xM_X5_takeTarget = true := by decide +kernel
theorem xo_X5_takeTarget : xm_okM xSL xZL xQL xX xM_X5_takeTarget := xm_okM_of xtabs (o := 5) rfl xk_X5_takeTarget xd_X5_takeTarget
set_option maxRecDepth 100000 in
theorem xd_X5_pace : xm_dec xM_X5_pace = true := by decide +kernel
set_option maxRecDepth 100000 in
theorem xk_X5_pace : xm_chkM xSL xZL xQL xCI xCJ 5 xM_X5_pace = true := by decide +kernel
theorem xo_X5_pace : xm_okM xSL xZL xQL xX xM_X5_pace := xm_okM_of xtabs (o := 5) rfl xk_X5_pace xd_X5_pace
set_option maxRecDepth 100000 in
theorem xd_X5_apart : xm_dec xM_X5_apart = true := by decide +kernel
set_option maxRecDepth 100000 in
theorem xk_X5_apart : xm_chkM xSL xZL xQL xCI xCJ 5 xM_X5_apart = true := by decide +kernel
theorem xo_X5_apart : xm_okM xSL xZL xQL xX xM_X5_apart := xm_okM_of xtabs (o := 5) rfl xk_X5_apart xd_X5_apart
set_option maxRecDepth 100000 in
theorem xd_X5_isNewName : xm_dec xM_X5_isNewName = true := by decide +kernel
set_option maxRecDepth 100000 in
theorem xk_X5_isNewName : xm_chkM xSL xZL xQL xCI xCJ 5 xM_X5_isNewName = true := by decide +kernel
theorem xo_X5_isNewName : xm_okM xSL xZL xQL xX xM_X5_isNewName := xm_okM_of xtabs (o := 5) rfl xk_X5_isNewName xd_X5_isNewName
set_option maxRecDepth 100000 in
theorem xd_X5_isCampaign : xm_dec xM_X5_isCampaign = true := by decide +kernel
set_option maxRecDepth 100000 in
theorem xk_X5_isCampaign : xm_chkM xSL xZL xQL xCI xCJ 5 xM_X5_isCampaign = true := by decide +kernel
theorem xo_X5_isCampaign : xm_okM xSL xZL xQL xX xM_X5_isCampaign := xm_okM_of xtabs (o := 5) rfl xk_X5_isCampaign xd_X5_isCampaign
set_option maxRecDepth 100000 in
theorem xd_X5_findTag : xm_dec xM_X5_findTag = true := by decide +kernel
set_option maxRecDepth 100000 in
theorem xk_X5_findTag : xm_chkM xSL xZL xQL xCI xCJ 5 xM_X5_findTag = true := by decide +kernel
theorem xo_X5_findTag : xm_okM xSL xZL xQL xX xM_X5_findTag := xm_okM_of xtabs (o := 5) rfl xk_X5_findTag xd_X5_findTag
set_option maxRecDepth 100000 in
theorem xd_X5_findCampaign : xm_dec xM_X5_findCampaign = true := by decide +kernel
set_option maxRecDepth 100000 in
theorem xk_X5_findCampaign : xm_chkM xSL xZL xQL xCI xCJ 5 xM_X5_findCampaign = true := by decide +kernel
theorem xo_X5_findCampaign : xm_okM xSL xZL xQL xX xM_X5_findCampaign := xm_okM_of xtabs (o := 5) rfl xk_X5_findCampaign xd_X5_findCampaign
set_option maxRecDepth 100000 in
theorem xd_X5_takeNumber : xm_dec xM_X5_takeNumber = true := by decide +kernel
set_option maxRecDepth 100000 in
theorem xk_X5_takeNumber : xm_chkM xSL xZL xQL xCI xCJ 5 xM_X5_takeNumber = true := by decide +kernel
theorem xo_X5_takeNumber : xm_okM xSL xZL xQL xX xM_X5_takeNumber := xm_okM_of xtabs (o := 5) rfl xk_X5_takeNumber xd_X5_takeNumber
set_option maxRecDepth 100000 in
theorem xd_X5_isWithin : xm_dec xM_X5_isWithin = true := by decide +kernel
set_option maxRecDepth 100000 in
theorem xk_X5_isWithin : xm_chkM xSL xZL xQL xCI xCJ 5 xM_X5_isWithin = true := by decide +kernel
theorem xo_X5_isWithin : xm_okM xSL xZL xQL xX xM_X5_isWithin := xm_okM_of xtabs (o := 5) rfl xk_X5_isWithin xd_X5_isWithin
set_option maxRecDepth 100000 in
theorem xd_X5_takeSemicolon : xm_dec xM_X5_takeSemicolon = true := by decide +kernel
set_option maxRecDepth 100000 in
theorem xk_X5_takeSemicolon : xm_chkM xSL xZL xQL xCI xCJ 5 xM_X5_takeSemicolon = true := by decide +kernel
theorem xo_X5_takeSemicolon : xm_okM xSL xZL xQL xX xM_X5_takeSemicolon := xm_okM_of xtabs (o := 5) rfl xk_X5_takeSemicolon xd_X5_takeSemicolon
set_option maxRecDepth 100000 in
theorem xd_X5_unexpected : xm_dec xM_X5_unexpected = true := by decide +kernel
set_option maxRecDepth 100000 in
theorem xk_X5_unexpected : xm_chkM xSL xZL xQL xCI xCJ 5 xM_X5_unexpected = true := by decide +kernel
theorem xo_X5_unexpected : xm_okM xSL xZL xQL xX xM_X5_unexpected := xm_okM_of xtabs (o := 5) rfl xk_X5_unexpected xd_X5_unexpected
set_option maxRecDepth 100000 in
theorem xd_X5_fail : xm_dec xM_X5_fail = true := by decide +kernel
set_option maxRecDepth 100000 in
theorem xk_X5_fail : xm_chkM xSL xZL xQL xCI xCJ 5 xM_X5_fail = true := by decide +kernel
theorem xo_X5_fail : xm_okM xSL xZL xQL xX xM_X5_fail := xm_okM_of xtabs (o := 5) rfl xk_X5_fail xd_X5_fail
set_option maxRecDepth 100000 in
theorem xd_X6_init : xm_dec xM_X6_init = true := by decide +kernel
set_option maxRecDepth 100000 in
theorem xk_X6_init : xm_chkM xSL xZL xQL xCI xCJ 6 xM_X6_init = true := by decide +kernel
theorem xo_X6_init : xm_okM xSL xZL xQL xX xM_X6_init := xm_okM_of xtabs (o := 6) rfl xk_X6_init xd_X6_init
set_option maxRecDepth 100000 in
theorem xd_X6_clear : xm_dec xM_X6_clear = true := by decide +kernel
set_option maxRecDepth 100000 in
theorem xk_X6_clear : xm_chkM xSL xZL xQL xCI xCJ 6 xM_X6_clear = true := by decide +kernel
theorem xo_X6_clear : xm_okM xSL xZL xQL xX xM_X6_clear := xm_okM_of xtabs (o := 6) rfl xk_X6_clear xd_X6_clear
set_option maxRecDepth 100000 in
theorem xd_X7_init : xm_dec xM_X7_init = true := by decide +kernel
set_option maxRecDepth 100000 in
theorem xk_X7_init : xm_chkM xSL xZL xQL xCI xCJ 7 xM_X7_init = true := by decide +kernel
theorem xo_X7_init : xm_okM xSL xZL xQL xX xM_X7_init := xm_okM_of xtabs (o := 7) rfl xk_X7_init xd_X7_init
set_option maxRecDepth 100000 in
theorem xd_X7_begin : xm_dec xM_X7_begin = true := by decide +kernel
set_option maxRecDepth 100000 in
theorem xk_X7_begin : xm_chkM xSL xZL xQL xCI xCJ 7 xM_X7_begin = true := by decide +kernel
theorem xo_X7_begin : xm_okM xSL xZL xQL xX xM_X7_begin := xm_okM_of xtabs (o := 7) rfl xk_X7_begin xd_X7_begin
set_option maxRecDepth 100000 in
theorem xd_X7_beginDay : xm_dec xM_X7_beginDay = true := by decide +kernel
set_option maxRecDepth 100000 in
theorem xk_X7_beginDay : xm_chkM xSL xZL xQL xCI xCJ 7 xM_X7_beginDay = true := by decide +kernel
theorem xo_X7_beginDay : xm_okM xSL xZL xQL xX xM_X7_beginDay := xm_okM_of xtabs (o := 7) rfl xk_X7_beginDay xd_X7_beginDay
set_option maxRecDepth 100000 in
theorem xd_X7_changeMode : xm_dec xM_X7_changeMode = true := by decide +kernel
set_option maxRecDepth 100000 in
theorem xk_X7_changeMode : xm_chkM xSL xZL xQL xCI xCJ 7 xM_X7_changeMode = true := by decide +kernel
theorem xo_X7_changeMode : xm_okM xSL xZL xQL xX xM_X7_changeMode := xm_okM_of xtabs (o := 7) rfl xk_X7_changeMode xd_X7_changeMode
set_option maxRecDepth 100000 in
theorem xd_X7_copy : xm_dec xM_X7_copy = true := by decide +kernel
set_option maxRecDepth 100000 in
theorem xk_X7_copy : xm_chkM xSL xZL xQL xCI xCJ 7 xM_X7_copy = true := by decide +kernel
theorem xo_X7_copy : xm_okM xSL xZL xQL xX xM_X7_copy := xm_okM_of xtabs (o := 7) rfl xk_X7_copy xd_X7_copy
set_option maxRecDepth 100000 in
theorem xd_X8_init : xm_dec xM_X8_init = true := by decide +kernel
set_option maxRecDepth 100000 in
theorem xk_X8_init : xm_chkM xSL xZL xQL xCI xCJ 8 xM_X8_init = true := by decide +kernel
theorem xo_X8_init : xm_okM xSL xZL xQL xX xM_X8_init := xm_okM_of xtabs (o := 8) rfl xk_X8_init xd_X8_init
set_option maxRecDepth 100000 in
theorem xd_X9_init : xm_dec xM_X9_init = true := by decide +kernel
set_option maxRecDepth 100000 in
theorem xk_X9_init : xm_chkM xSL xZL xQL xCI xCJ 9 xM_X9_init = true := by decide +kernel
theorem xo_X9_init : xm_okM xSL xZL xQL xX xM_X9_init := xm_okM_of xtabs (o := 9) rfl xk_X9_init xd_X9_init
set_option maxRecDepth 100000 in
theorem xd_X9_append : xm_dec xM_X9_append = true := by decide +kernel
set_option maxRecDepth 100000 in
theorem xk_X9_append : xm_chkM xSL xZL xQL xCI xCJ 9 xM_X9_append = true := by decide +kernel
theorem xo_X9_append : xm_okM xSL xZL xQL xX xM_X9_append := xm_okM_of xtabs (o := 9) rfl xk_X9_append xd_X9_append
set_option maxRecDepth 100000 in
theorem xd_X9_begin : xm_dec xM_X9_begin = true := by decide +kernel
set_option maxRecDepth 100000 in
theorem xk_X9_begin : xm_chkM xSL xZL xQL xCI xCJ 9 xM_X9_begin = true := by decide +kernel
theorem xo_X9_begin : xm_okM xSL xZL xQL xX xM_X9_begin := xm_okM_of xtabs (o := 9) rfl xk_X9_begin xd_X9_begin
set_option maxRecDepth 100000 in
theorem xd_X9_advance : xm_dec xM_X9_advance = true := by decide +kernel
set_option maxRecDepth 100000 in
theorem xk_X9_advance : xm_chkM xSL xZL xQL xCI xCJ 9 xM_X9_advance = true := by decide +kernel
theorem xo_X9_advance : xm_okM xSL xZL xQL xX xM_X9_advance := xm_okM_of xtabs (o := 9) rfl xk_X9_advance xd_X9_advance
set_option maxRecDepth 100000 in
theorem xd_X9_runEnd : xm_dec xM_X9_runEnd = true := by decide +kernel
set_option maxRecDepth 100000 in
theorem xk_X9_runEnd : xm_chkM xSL xZL xQL xCI xCJ 9 xM_X9_runEnd = true := by decide +kernel
theorem xo_X9_runEnd : xm_okM xSL xZL xQL xX xM_X9_runEnd := xm_okM_of xtabs (o := 9) rfl xk_X9_runEnd xd_X9_runEnd
set_option maxRecDepth 100000 in
theorem xd_X9_evaluate : xm_dec xM_X9_evaluate = true := by decide +kernel
set_option maxRecDepth 100000 in
theorem xk_X9_evaluate : xm_chkM xSL xZL xQL xCI xCJ 9 xM_X9_evaluate = true := by decide +kernel
theorem xo_X9_evaluate : xm_okM xSL xZL xQL xX xM_X9_evaluate := xm_okM_of xtabs (o := 9) rfl xk_X9_evaluate xd_X9_evaluate
set_option maxRecDepth 100000 in
theorem xd_X9_spells : xm_dec xM_X9_spells = true := by decide +kernel
set_option maxRecDepth 100000 in
theorem xk_X9_spells : xm_chkM xSL xZL xQL xCI xCJ 9 xM_X9_spells = true := by decide +kernel
theorem xo_X9_spells : xm_okM xSL xZL xQL xX xM_X9_spells := xm_okM_of xtabs (o := 9) rfl xk_X9_spells xd_X9_spells
set_option maxRecDepth 100000 in
theorem xd_X9_letters : xm_dec xM_X9_letters = true := by decide +kernel
set_option maxRecDepth 100000 in
theorem xk_X9_letters : xm_chkM xSL xZL xQL xCI xCJ 9 xM_X9_letters = true := by decide +kernel
theorem xo_X9_letters : xm_okM xSL xZL xQL xX xM_X9_letters := xm_okM_of xtabs (o := 9) rfl xk_X9_letters xd_X9_letters
set_option maxRecDepth 100000 in
theorem xd_X10_init : xm_dec xM_X10_init = true := by decide +kernel
set_option maxRecDepth 100000 in
theorem xk_X10_init : xm_chkM xSL xZL xQL xCI xCJ 10 xM_X10_init = true := by decide +kernel
theorem xo_X10_init : xm_okM xSL xZL xQL xX xM_X10_init := xm_okM_of xtabs (o := 10) rfl xk_X10_init xd_X10_init
set_option maxRecDepth 100000 in
theorem xd_X10_feed : xm_dec xM_X10_feed = true := by decide +kernel
set_option maxRecDepth 100000 in
theorem xk_X10_feed : xm_chkM xSL xZL xQL xCI xCJ 10 xM_X10_feed = true := by decide +kernel
theorem xo_X10_feed : xm_okM xSL xZL xQL xX xM_X10_feed := xm_okM_of xtabs (o := 10) rfl xk_X10_feed xd_X10_feed
set_option maxRecDepth 100000 in
theorem xd_X10_load : xm_dec xM_X10_load = true := by decide +kernel
set_option maxRecDepth 100000 in
theorem xk_X10_load : xm_chkM xSL xZL xQL xCI xCJ 10 xM_X10_load = true := by decide +kernel
theorem xo_X10_load : xm_okM xSL xZL xQL xX xM_X10_load := xm_okM_of xtabs (o := 10) rfl xk_X10_load xd_X10_load
set_option maxRecDepth 100000 in
theorem xd_X10_errorKind : xm_dec xM_X10_errorKind = true := by decide +kernel
set_option maxRecDepth 100000 in
theorem xk_X10_errorKind : xm_chkM xSL xZL xQL xCI xCJ 10 xM_X10_errorKind = true := by decide +kernel
theorem xo_X10_errorKind : xm_okM xSL xZL xQL xX xM_X10_errorKind := xm_okM_of xtabs (o := 10) rfl xk_X10_errorKind xd_X10_errorKind
set_option maxRecDepth 100000 in
theorem xd_X10_errorPosition : xm_dec xM_X10_errorPosition = true := by decide +kernel
set_option maxRecDepth 100000 in
theorem xk_X10_errorPosition : xm_chkM xSL xZL xQL xCI xCJ 10 xM_X10_errorPosition = true := by decide +kernel
theorem xo_X10_errorPosition : xm_okM xSL xZL xQL xX xM_X10_errorPosition := xm_okM_of xtabs (o := 10) rfl xk_X10_errorPosition xd_X10_errorPosition
set_option maxRecDepth 100000 in
theorem xd_X10_campaigns : xm_dec xM_X10_campaigns = true := by decide +kernel
set_option maxRecDepth 100000 in
theorem xk_X10_campaigns : xm_chkM xSL xZL xQL xCI xCJ 10 xM_X10_campaigns = true := by decide +kernel
theorem xo_X10_campaigns : xm_okM xSL xZL xQL xX xM_X10_campaigns := xm_okM_of xtabs (o := 10) rfl xk_X10_campaigns xd_X10_campaigns
set_option maxRecDepth 100000 in
theorem xd_X10_tags : xm_dec xM_X10_tags = true := by decide +kernel
set_option maxRecDepth 100000 in
theorem xk_X10_tags : xm_chkM xSL xZL xQL xCI xCJ 10 xM_X10_tags = true := by decide +kernel
theorem xo_X10_tags : xm_okM xSL xZL xQL xX xM_X10_tags := xm_okM_of xtabs (o := 10) rfl xk_X10_tags xd_X10_tags
set_option maxRecDepth 100000 in
theorem xd_X10_slots : xm_dec xM_X10_slots = true := by decide +kernel
set_option maxRecDepth 100000 in
theorem xk_X10_slots : xm_chkM xSL xZL xQL xCI xCJ 10 xM_X10_slots = true := by decide +kernel
theorem xo_X10_slots : xm_okM xSL xZL xQL xX xM_X10_slots := xm_okM_of xtabs (o := 10) rfl xk_X10_slots xd_X10_slots
set_option maxRecDepth 100000 in
theorem xd_X10_floor : xm_dec xM_X10_floor = true := by decide +kernel
set_option maxRecDepth 100000 in
theorem xk_X10_floor : xm_chkM xSL xZL xQL xCI xCJ 10 xM_X10_floor = true := by decide +kernel
theorem xo_X10_floor : xm_okM xSL xZL xQL xX xM_X10_floor := xm_okM_of xtabs (o := 10) rfl xk_X10_floor xd_X10_floor
set_option maxRecDepth 100000 in
theorem xd_X10_bid : xm_dec xM_X10_bid = true := by decide +kernel
set_option maxRecDepth 100000 in
theorem xk_X10_bid : xm_chkM xSL xZL xQL xCI xCJ 10 xM_X10_bid = true := by decide +kernel
theorem xo_X10_bid : xm_okM xSL xZL xQL xX xM_X10_bid := xm_okM_of xtabs (o := 10) rfl xk_X10_bid xd_X10_bid
set_option maxRecDepth 100000 in
theorem xd_X10_effectiveBid : xm_dec xM_X10_effectiveBid = true := by decide +kernel
set_option maxRecDepth 100000 in
theorem xk_X10_effectiveBid : xm_chkM xSL xZL xQL xCI xCJ 10 xM_X10_effectiveBid = true := by decide +kernel
theorem xo_X10_effectiveBid : xm_okM xSL xZL xQL xX xM_X10_effectiveBid := xm_okM_of xtabs (o := 10) rfl xk_X10_effectiveBid xd_X10_effectiveBid
set_option maxRecDepth 100000 in
theorem xd_X10_multiplier : xm_dec xM_X10_multiplier = true := by decide +kernel
set_option maxRecDepth 100000 in
theorem xk_X10_multiplier : xm_chkM xSL xZL xQL xCI xCJ 10 xM_X10_multiplier = true := by decide +kernel
theorem xo_X10_multiplier : xm_okM xSL xZL xQL xX xM_X10_multiplier := xm_okM_of xtabs (o := 10) rfl xk_X10_multiplier xd_X10_multiplier
set_option maxRecDepth 100000 in
theorem xd_X10_budget : xm_dec xM_X10_budget = true := by decide +kernel
set_option maxRecDepth 100000 in
theorem xk_X10_budget : xm_chkM xSL xZL xQL xCI xCJ 10 xM_X10_budget = true := by decide +kernel
theorem xo_X10_budget : xm_okM xSL xZL xQL xX xM_X10_budget := xm_okM_of xtabs (o := 10) rfl xk_X10_budget xd_X10_budget
set_option maxRecDepth 100000 in
theorem xd_X10_spent : xm_dec xM_X10_spent = true := by decide +kernel
set_option maxRecDepth 100000 in
theorem xk_X10_spent : xm_chkM xSL xZL xQL xCI xCJ 10 xM_X10_spent = true := by decide +kernel
theorem xo_X10_spent : xm_okM xSL xZL xQL xX xM_X10_spent := xm_okM_of xtabs (o := 10) rfl xk_X10_spent xd_X10_spent
set_option maxRecDepth 100000 in
theorem xd_X10_plan : xm_dec xM_X10_plan = true := by decide +kernel
set_option maxRecDepth 100000 in
theorem xk_X10_plan : xm_chkM xSL xZL xQL xCI xCJ 10 xM_X10_plan = true := by decide +kernel
theorem xo_X10_plan : xm_okM xSL xZL xQL xX xM_X10_plan := xm_okM_of xtabs (o := 10) rfl xk_X10_plan xd_X10_plan
set_option maxRecDepth 100000 in
theorem xd_X10_mode : xm_dec xM_X10_mode = true := by decide +kernel
set_option maxRecDepth 100000 in
theorem xk_X10_mode : xm_chkM xSL xZL xQL xCI xCJ 10 xM_X10_mode = true := by decide +kernel
theorem xo_X10_mode : xm_okM xSL xZL xQL xX xM_X10_mode := xm_okM_of xtabs (o := 10) rfl xk_X10_mode xd_X10_mode
set_option maxRecDepth 100000 in
theorem xd_X10_tick : xm_dec xM_X10_tick = true := by decide +kernel
set_option maxRecDepth 100000 in
theorem xk_X10_tick : xm_chkM xSL xZL xQL xCI xCJ 10 xM_X10_tick = true := by decide +kernel
theorem xo_X10_tick : xm_okM xSL xZL xQL xX xM_X10_tick := xm_okM_of xtabs (o := 10) rfl xk_X10_tick xd_X10_tick
set_option maxRecDepth 100000 in
theorem xd_X10_refusal : xm_dec xM_X10_refusal = true := by decide +kernel
set_option maxRecDepth 100000 in
theorem xk_X10_refusal : xm_chkM xSL xZL xQL xCI xCJ 10 xM_X10_refusal = true := by decide +kernel
theorem xo_X10_refusal : xm_okM xSL xZL xQL xX xM_X10_refusal := xm_okM_of xtabs (o := 10) rfl xk_X10_refusal xd_X10_refusal
set_option maxRecDepth 100000 in
theorem xd_X10_ranked : xm_dec xM_X10_ranked = true := by decide +kernel
set_option maxRecDepth 100000 in
theorem xk_X10_ranked : xm_chkM xSL xZL xQL xCI xCJ 10 xM_X10_ranked = true := by decide +kernel
theorem xo_X10_ranked : xm_okM xSL xZL xQL xX xM_X10_ranked := xm_okM_of xtabs (o := 10) rfl xk_X10_ranked xd_X10_ranked
set_option maxRecDepth 100000 in
theorem xd_X10_winner : xm_dec xM_X10_winner = true := by decide +kernel
set_option maxRecDepth 100000 in
theorem xk_X10_winner : xm_chkM xSL xZL xQL xCI xCJ 10 xM_X10_winner = true := by decide +kernel
theorem xo_X10_winner : xm_okM xSL xZL xQL xX xM_X10_winner := xm_okM_of xtabs (o := 10) rfl xk_X10_winner xd_X10_winner
set_option maxRecDepth 100000 in
theorem xd_X10_price : xm_dec xM_X10_price = true := by decide +kernel
set_option maxRecDepth 100000 in
theorem xk_X10_price : xm_chkM xSL xZL xQL xCI xCJ 10 xM_X10_price = true := by decide +kernel
theorem xo_X10_price : xm_okM xSL xZL xQL xX xM_X10_price := xm_okM_of xtabs (o := 10) rfl xk_X10_price xd_X10_price
set_option maxRecDepth 100000 in
theorem xd_X10_leastBid : xm_dec xM_X10_leastBid = true := by decide +kernel
set_option maxRecDepth 100000 in
theorem xk_X10_leastBid : xm_chkM xSL xZL xQL xCI xCJ 10 xM_X10_leastBid = true := by decide +kernel
theorem xo_X10_leastBid : xm_okM xSL xZL xQL xX xM_X10_leastBid := xm_okM_of xtabs (o := 10) rfl xk_X10_leastBid xd_X10_leastBid
set_option maxRecDepth 100000 in
theorem xd_X10_bestFloor : xm_dec xM_X10_bestFloor = true := by decide +kernel
set_option maxRecDepth 100000 in
theorem xk_X10_bestFloor : xm_chkM xSL xZL xQL xCI xCJ 10 xM_X10_bestFloor = true := by decide +kernel
theorem xo_X10_bestFloor : xm_okM xSL xZL xQL xX xM_X10_bestFloor := xm_okM_of xtabs (o := 10) rfl xk_X10_bestFloor xd_X10_bestFloor
set_option maxRecDepth 100000 in
theorem xd_X10_revenueAfter : xm_dec xM_X10_revenueAfter = true := by decide +kernel
set_option maxRecDepth 100000 in
theorem xk_X10_revenueAfter : xm_chkM xSL xZL xQL xCI xCJ 10 xM_X10_revenueAfter = true := by decide +kernel
theorem xo_X10_revenueAfter : xm_okM xSL xZL xQL xX xM_X10_revenueAfter := xm_okM_of xtabs (o := 10) rfl xk_X10_revenueAfter xd_X10_revenueAfter
set_option maxRecDepth 100000 in
theorem xd_X10_multiplierAfter : xm_dec xM_X10_multiplierAfter = true := by decide +kernel
set_option maxRecDepth 100000 in
theorem xk_X10_multiplierAfter : xm_chkM xSL xZL xQL xCI xCJ 10 xM_X10_multiplierAfter = true := by decide +kernel
theorem xo_X10_multiplierAfter : xm_okM xSL xZL xQL xX xM_X10_multiplierAfter := xm_okM_of xtabs (o := 10) rfl xk_X10_multiplierAfter xd_X10_multiplierAfter
set_option maxRecDepth 100000 in
theorem xd_X10_bestMode : xm_dec xM_X10_bestMode = true := by decide +kernel
set_option maxRecDepth 100000 in
theorem xk_X10_bestMode : xm_chkM xSL xZL xQL xCI xCJ 10 xM_X10_bestMode = true := by decide +kernel
theorem xo_X10_bestMode : xm_okM xSL xZL xQL xX xM_X10_bestMode := xm_okM_of xtabs (o := 10) rfl xk_X10_bestMode xd_X10_bestMode
set_option maxRecDepth 100000 in
theorem xd_X10_tryAhead : xm_dec xM_X10_tryAhead = true := by decide +kernel
set_option maxRecDepth 100000 in
theorem xk_X10_tryAhead : xm_chkM xSL xZL xQL xCI xCJ 10 xM_X10_tryAhead = true := by decide +kernel
theorem xo_X10_tryAhead : xm_okM xSL xZL xQL xX xM_X10_tryAhead := xm_okM_of xtabs (o := 10) rfl xk_X10_tryAhead xd_X10_tryAhead
set_option maxRecDepth 100000 in
theorem xd_X10_request : xm_dec xM_X10_request = true := by decide +kernel
set_option maxRecDepth 100000 in
theorem xk_X10_request : xm_chkM xSL xZL xQL xCI xCJ 10 xM_X10_request = true := by decide +kernel
theorem xo_X10_request : xm_okM xSL xZL xQL xX xM_X10_request := xm_okM_of xtabs (o := 10) rfl xk_X10_request xd_X10_request
