/-! printed by wip/gen/gen15.py: the method tables are right -/
set_option maxRecDepth 100000 in
theorem xd_X11_sumOfPrices : xm_dec xM_X11_sumOfPrices = true := by decide +kernel
set_option maxRecDepth 100000 in
theorem xk_X11_sumOfPrices : xm_chkM xSL xZL xQL xCI xCJ 11 xM_X11_sumOfPrices = true := by decide +kernel
theorem xo_X11_sumOfPrices : xm_okM xSL xZL xQL xX xM_X11_sumOfPrices := xm_okM_of xtabs (o := 11) rfl xk_X11_sumOfPrices xd_X11_sumOfPrices
set_option maxRecDepth 100000 in
theorem xd_X11_bestFloor : xm_dec xM_X11_bestFloor = true := by decide +kernel
set_option maxRecDepth 100000 in
theorem xk_X11_bestFloor : xm_chkM xSL xZL xQL xCI xCJ 11 xM_X11_bestFloor = true := by decide +kernel
theorem xo_X11_bestFloor : xm_okM xSL xZL xQL xX xM_X11_bestFloor := xm_okM_of xtabs (o := 11) rfl xk_X11_bestFloor xd_X11_bestFloor
set_option maxRecDepth 100000 in
theorem xd_X11_goAhead : xm_dec xM_X11_goAhead = true := by decide +kernel
set_option maxRecDepth 100000 in
theorem xk_X11_goAhead : xm_chkM xSL xZL xQL xCI xCJ 11 xM_X11_goAhead = true := by decide +kernel
theorem xo_X11_goAhead : xm_okM xSL xZL xQL xX xM_X11_goAhead := xm_okM_of xtabs (o := 11) rfl xk_X11_goAhead xd_X11_goAhead
set_option maxRecDepth 100000 in
theorem xd_X11_isAhead : xm_dec xM_X11_isAhead = true := by decide +kernel
set_option maxRecDepth 100000 in
theorem xk_X11_isAhead : xm_chkM xSL xZL xQL xCI xCJ 11 xM_X11_isAhead = true := by decide +kernel
theorem xo_X11_isAhead : xm_okM xSL xZL xQL xX xM_X11_isAhead := xm_okM_of xtabs (o := 11) rfl xk_X11_isAhead xd_X11_isAhead
set_option maxRecDepth 100000 in
theorem xd_X11_revenueAfter : xm_dec xM_X11_revenueAfter = true := by decide +kernel
set_option maxRecDepth 100000 in
theorem xk_X11_revenueAfter : xm_chkM xSL xZL xQL xCI xCJ 11 xM_X11_revenueAfter = true := by decide +kernel
theorem xo_X11_revenueAfter : xm_okM xSL xZL xQL xX xM_X11_revenueAfter := xm_okM_of xtabs (o := 11) rfl xk_X11_revenueAfter xd_X11_revenueAfter
set_option maxRecDepth 100000 in
theorem xd_X11_multiplierAfter : xm_dec xM_X11_multiplierAfter = true := by decide +kernel
set_option maxRecDepth 100000 in
theorem xk_X11_multiplierAfter : xm_chkM xSL xZL xQL xCI xCJ 11 xM_X11_multiplierAfter = true := by decide +kernel
theorem xo_X11_multiplierAfter : xm_okM xSL xZL xQL xX xM_X11_multiplierAfter := xm_okM_of xtabs (o := 11) rfl xk_X11_multiplierAfter xd_X11_multiplierAfter
set_option maxRecDepth 100000 in
theorem xd_X11_impressionsOf : xm_dec xM_X11_impressionsOf = true := by decide +kernel
set_option maxRecDepth 100000 in
theorem xk_X11_impressionsOf : xm_chkM xSL xZL xQL xCI xCJ 11 xM_X11_impressionsOf = true := by decide +kernel
theorem xo_X11_impressionsOf : xm_okM xSL xZL xQL xX xM_X11_impressionsOf := xm_okM_of xtabs (o := 11) rfl xk_X11_impressionsOf xd_X11_impressionsOf
set_option maxRecDepth 100000 in
theorem xd_X11_bestMode : xm_dec xM_X11_bestMode = true := by decide +kernel
set_option maxRecDepth 100000 in
theorem xk_X11_bestMode : xm_chkM xSL xZL xQL xCI xCJ 11 xM_X11_bestMode = true := by decide +kernel
theorem xo_X11_bestMode : xm_okM xSL xZL xQL xX xM_X11_bestMode := xm_okM_of xtabs (o := 11) rfl xk_X11_bestMode xd_X11_bestMode
set_option maxRecDepth 100000 in
theorem xd_X11_request : xm_dec xM_X11_request = true := by decide +kernel
set_option maxRecDepth 100000 in
theorem xk_X11_request : xm_chkM xSL xZL xQL xCI xCJ 11 xM_X11_request = true := by decide +kernel
theorem xo_X11_request : xm_okM xSL xZL xQL xX xM_X11_request := xm_okM_of xtabs (o := 11) rfl xk_X11_request xd_X11_request
set_option maxRecDepth 100000 in
theorem xd_X11_pass : xm_dec xM_X11_pass = true := by decide +kernel
set_option maxRecDepth 100000 in
theorem xk_X11_pass : xm_chkM xSL xZL xQL xCI xCJ 11 xM_X11_pass = true := by decide +kernel
theorem xo_X11_pass : xm_okM xSL xZL xQL xX xM_X11_pass := xm_okM_of xtabs (o := 11) rfl xk_X11_pass xd_X11_pass
set_option maxRecDepth 100000 in
theorem xd_X11_conversionAt : xm_dec xM_X11_conversionAt = true := by decide +kernel
set_option maxRecDepth 100000 in
theorem xk_X11_conversionAt : xm_chkM xSL xZL xQL xCI xCJ 11 xM_X11_conversionAt = true := by decide +kernel
theorem xo_X11_conversionAt : xm_okM xSL xZL xQL xX xM_X11_conversionAt := xm_okM_of xtabs (o := 11) rfl xk_X11_conversionAt xd_X11_conversionAt
set_option maxRecDepth 100000 in
theorem xd_X11_leads : xm_dec xM_X11_leads = true := by decide +kernel
set_option maxRecDepth 100000 in
theorem xk_X11_leads : xm_chkM xSL xZL xQL xCI xCJ 11 xM_X11_leads = true := by decide +kernel
theorem xo_X11_leads : xm_okM xSL xZL xQL xX xM_X11_leads := xm_okM_of xtabs (o := 11) rfl xk_X11_leads xd_X11_leads
set_option maxRecDepth 100000 in
theorem xd_X11_lastOf : xm_dec xM_X11_lastOf = true := by decide +kernel
set_option maxRecDepth 100000 in
theorem xk_X11_lastOf : xm_chkM xSL xZL xQL xCI xCJ 11 xM_X11_lastOf = true := by decide +kernel
theorem xo_X11_lastOf : xm_okM xSL xZL xQL xX xM_X11_lastOf := xm_okM_of xtabs (o := 11) rfl xk_X11_lastOf xd_X11_lastOf
set_option maxRecDepth 100000 in
theorem xd_X11_firstOf : xm_dec xM_X11_firstOf = true := by decide +kernel
set_option maxRecDepth 100000 in
theorem xk_X11_firstOf : xm_chkM xSL xZL xQL xCI xCJ 11 xM_X11_firstOf = true := by decide +kernel
theorem xo_X11_firstOf : xm_okM xSL xZL xQL xX xM_X11_firstOf := xm_okM_of xtabs (o := 11) rfl xk_X11_firstOf xd_X11_firstOf
set_option maxRecDepth 100000 in
theorem xd_X11_campaignAt : xm_dec xM_X11_campaignAt = true := by decide +kernel
set_option maxRecDepth 100000 in
theorem xk_X11_campaignAt : xm_chkM xSL xZL xQL xCI xCJ 11 xM_X11_campaignAt = true := by decide +kernel
theorem xo_X11_campaignAt : xm_okM xSL xZL xQL xX xM_X11_campaignAt := xm_okM_of xtabs (o := 11) rfl xk_X11_campaignAt xd_X11_campaignAt
set_option maxRecDepth 100000 in
theorem xd_X11_convert : xm_dec xM_X11_convert = true := by decide +kernel
set_option maxRecDepth 100000 in
theorem xk_X11_convert : xm_chkM xSL xZL xQL xCI xCJ 11 xM_X11_convert = true := by decide +kernel
theorem xo_X11_convert : xm_okM xSL xZL xQL xX xM_X11_convert := xm_okM_of xtabs (o := 11) rfl xk_X11_convert xd_X11_convert
set_option maxRecDepth 100000 in
theorem xd_X11_change : xm_dec xM_X11_change = true := by decide +kernel
set_option maxRecDepth 100000 in
theorem xk_X11_change : xm_chkM xSL xZL xQL xCI xCJ 11 xM_X11_change = true := by decide +kernel
theorem xo_X11_change : xm_okM xSL xZL xQL xX xM_X11_change := xm_okM_of xtabs (o := 11) rfl xk_X11_change xd_X11_change
set_option maxRecDepth 100000 in
theorem xd_X11_pause : xm_dec xM_X11_pause = true := by decide +kernel
set_option maxRecDepth 100000 in
theorem xk_X11_pause : xm_chkM xSL xZL xQL xCI xCJ 11 xM_X11_pause = true := by decide +kernel
theorem xo_X11_pause : xm_okM xSL xZL xQL xX xM_X11_pause := xm_okM_of xtabs (o := 11) rfl xk_X11_pause xd_X11_pause
set_option maxRecDepth 100000 in
theorem xd_X11_resume : xm_dec xM_X11_resume = true := by decide +kernel
set_option maxRecDepth 100000 in
theorem xk_X11_resume : xm_chkM xSL xZL xQL xCI xCJ 11 xM_X11_resume = true := by decide +kernel
theorem xo_X11_resume : xm_okM xSL xZL xQL xX xM_X11_resume := xm_okM_of xtabs (o := 11) rfl xk_X11_resume xd_X11_resume
set_option maxRecDepth 100000 in
theorem xd_X11_setBid : xm_dec xM_X11_setBid = true := by decide +kernel
set_option maxRecDepth 100000 in
theorem xk_X11_setBid : xm_chkM xSL xZL xQL xCI xCJ 11 xM_X11_setBid = true := by decide +kernel
theorem xo_X11_setBid : xm_okM xSL xZL xQL xX xM_X11_setBid := xm_okM_of xtabs (o := 11) rfl xk_X11_setBid xd_X11_setBid
set_option maxRecDepth 100000 in
theorem xd_X11_setBudget : xm_dec xM_X11_setBudget = true := by decide +kernel
set_option maxRecDepth 100000 in
theorem xk_X11_setBudget : xm_chkM xSL xZL xQL xCI xCJ 11 xM_X11_setBudget = true := by decide +kernel
theorem xo_X11_setBudget : xm_okM xSL xZL xQL xX xM_X11_setBudget := xm_okM_of xtabs (o := 11) rfl xk_X11_setBudget xd_X11_setBudget
set_option maxRecDepth 100000 in
theorem xd_X11_setMode : xm_dec xM_X11_setMode = true := by decide +kernel
set_option maxRecDepth 100000 in
theorem xk_X11_setMode : xm_chkM xSL xZL xQL xCI xCJ 11 xM_X11_setMode = true := by decide +kernel
theorem xo_X11_setMode : xm_okM xSL xZL xQL xX xM_X11_setMode := xm_okM_of xtabs (o := 11) rfl xk_X11_setMode xd_X11_setMode
set_option maxRecDepth 100000 in
theorem xd_X11_setFloor : xm_dec xM_X11_setFloor = true := by decide +kernel
set_option maxRecDepth 100000 in
theorem xk_X11_setFloor : xm_chkM xSL xZL xQL xCI xCJ 11 xM_X11_setFloor = true := by decide +kernel
theorem xo_X11_setFloor : xm_okM xSL xZL xQL xX xM_X11_setFloor := xm_okM_of xtabs (o := 11) rfl xk_X11_setFloor xd_X11_setFloor
set_option maxRecDepth 100000 in
theorem xd_X11_impressions : xm_dec xM_X11_impressions = true := by decide +kernel
set_option maxRecDepth 100000 in
theorem xk_X11_impressions : xm_chkM xSL xZL xQL xCI xCJ 11 xM_X11_impressions = true := by decide +kernel
theorem xo_X11_impressions : xm_okM xSL xZL xQL xX xM_X11_impressions := xm_okM_of xtabs (o := 11) rfl xk_X11_impressions xd_X11_impressions
set_option maxRecDepth 100000 in
theorem xd_X11_impression : xm_dec xM_X11_impression = true := by decide +kernel
set_option maxRecDepth 100000 in
theorem xk_X11_impression : xm_chkM xSL xZL xQL xCI xCJ 11 xM_X11_impression = true := by decide +kernel
theorem xo_X11_impression : xm_okM xSL xZL xQL xX xM_X11_impression := xm_okM_of xtabs (o := 11) rfl xk_X11_impression xd_X11_impression
set_option maxRecDepth 100000 in
theorem xd_X11_revenue : xm_dec xM_X11_revenue = true := by decide +kernel
set_option maxRecDepth 100000 in
theorem xk_X11_revenue : xm_chkM xSL xZL xQL xCI xCJ 11 xM_X11_revenue = true := by decide +kernel
theorem xo_X11_revenue : xm_okM xSL xZL xQL xX xM_X11_revenue := xm_okM_of xtabs (o := 11) rfl xk_X11_revenue xd_X11_revenue
set_option maxRecDepth 100000 in
theorem xd_X11_reachOf : xm_dec xM_X11_reachOf = true := by decide +kernel
set_option maxRecDepth 100000 in
theorem xk_X11_reachOf : xm_chkM xSL xZL xQL xCI xCJ 11 xM_X11_reachOf = true := by decide +kernel
theorem xo_X11_reachOf : xm_okM xSL xZL xQL xX xM_X11_reachOf := xm_okM_of xtabs (o := 11) rfl xk_X11_reachOf xd_X11_reachOf
set_option maxRecDepth 100000 in
theorem xd_X11_reach : xm_dec xM_X11_reach = true := by decide +kernel
set_option maxRecDepth 100000 in
theorem xk_X11_reach : xm_chkM xSL xZL xQL xCI xCJ 11 xM_X11_reach = true := by decide +kernel
theorem xo_X11_reach : xm_okM xSL xZL xQL xX xM_X11_reach := xm_okM_of xtabs (o := 11) rfl xk_X11_reach xd_X11_reach
set_option maxRecDepth 100000 in
theorem xd_X11_frequency : xm_dec xM_X11_frequency = true := by decide +kernel
set_option maxRecDepth 100000 in
theorem xk_X11_frequency : xm_chkM xSL xZL xQL xCI xCJ 11 xM_X11_frequency = true := by decide +kernel
theorem xo_X11_frequency : xm_okM xSL xZL xQL xX xM_X11_frequency := xm_okM_of xtabs (o := 11) rfl xk_X11_frequency xd_X11_frequency
set_option maxRecDepth 100000 in
theorem xd_X11_recent : xm_dec xM_X11_recent = true := by decide +kernel
set_option maxRecDepth 100000 in
theorem xk_X11_recent : xm_chkM xSL xZL xQL xCI xCJ 11 xM_X11_recent = true := by decide +kernel
theorem xo_X11_recent : xm_okM xSL xZL xQL xX xM_X11_recent := xm_okM_of xtabs (o := 11) rfl xk_X11_recent xd_X11_recent
set_option maxRecDepth 100000 in
theorem xd_X11_impressionsTo : xm_dec xM_X11_impressionsTo = true := by decide +kernel
set_option maxRecDepth 100000 in
theorem xk_X11_impressionsTo : xm_chkM xSL xZL xQL xCI xCJ 11 xM_X11_impressionsTo = true := by decide +kernel
theorem xo_X11_impressionsTo : xm_okM xSL xZL xQL xX xM_X11_impressionsTo := xm_okM_of xtabs (o := 11) rfl xk_X11_impressionsTo xd_X11_impressionsTo
set_option maxRecDepth 100000 in
theorem xd_X11_topUser : xm_dec xM_X11_topUser = true := by decide +kernel
set_option maxRecDepth 100000 in
theorem xk_X11_topUser : xm_chkM xSL xZL xQL xCI xCJ 11 xM_X11_topUser = true := by decide +kernel
theorem xo_X11_topUser : xm_okM xSL xZL xQL xX xM_X11_topUser := xm_okM_of xtabs (o := 11) rfl xk_X11_topUser xd_X11_topUser
set_option maxRecDepth 100000 in
theorem xd_X11_meanPrice : xm_dec xM_X11_meanPrice = true := by decide +kernel
set_option maxRecDepth 100000 in
theorem xk_X11_meanPrice : xm_chkM xSL xZL xQL xCI xCJ 11 xM_X11_meanPrice = true := by decide +kernel
theorem xo_X11_meanPrice : xm_okM xSL xZL xQL xX xM_X11_meanPrice := xm_okM_of xtabs (o := 11) rfl xk_X11_meanPrice xd_X11_meanPrice
set_option maxRecDepth 100000 in
theorem xd_X11_conversions : xm_dec xM_X11_conversions = true := by decide +kernel
set_option maxRecDepth 100000 in
theorem xk_X11_conversions : xm_chkM xSL xZL xQL xCI xCJ 11 xM_X11_conversions = true := by decide +kernel
theorem xo_X11_conversions : xm_okM xSL xZL xQL xX xM_X11_conversions := xm_okM_of xtabs (o := 11) rfl xk_X11_conversions xd_X11_conversions
set_option maxRecDepth 100000 in
theorem xd_X11_evenShare : xm_dec xM_X11_evenShare = true := by decide +kernel
set_option maxRecDepth 100000 in
theorem xk_X11_evenShare : xm_chkM xSL xZL xQL xCI xCJ 11 xM_X11_evenShare = true := by decide +kernel
theorem xo_X11_evenShare : xm_okM xSL xZL xQL xX xM_X11_evenShare := xm_okM_of xtabs (o := 11) rfl xk_X11_evenShare xd_X11_evenShare
set_option maxRecDepth 100000 in
theorem xd_X11_shareBy : xm_dec xM_X11_shareBy = true := by decide +kernel
set_option maxRecDepth 100000 in
theorem xk_X11_shareBy : xm_chkM xSL xZL xQL xCI xCJ 11 xM_X11_shareBy = true := by decide +kernel
theorem xo_X11_shareBy : xm_okM xSL xZL xQL xX xM_X11_shareBy := xm_okM_of xtabs (o := 11) rfl xk_X11_shareBy xd_X11_shareBy
set_option maxRecDepth 100000 in
theorem xd_X11_credit : xm_dec xM_X11_credit = true := by decide +kernel
set_option maxRecDepth 100000 in
theorem xk_X11_credit : xm_chkM xSL xZL xQL xCI xCJ 11 xM_X11_credit = true := by decide +kernel
theorem xo_X11_credit : xm_okM xSL xZL xQL xX xM_X11_credit := xm_okM_of xtabs (o := 11) rfl xk_X11_credit xd_X11_credit
set_option maxRecDepth 100000 in
theorem xd_X11_unattributed : xm_dec xM_X11_unattributed = true := by decide +kernel
set_option maxRecDepth 100000 in
theorem xk_X11_unattributed : xm_chkM xSL xZL xQL xCI xCJ 11 xM_X11_unattributed = true := by decide +kernel
theorem xo_X11_unattributed : xm_okM xSL xZL xQL xX xM_X11_unattributed := xm_okM_of xtabs (o := 11) rfl xk_X11_unattributed xd_X11_unattributed
set_option maxRecDepth 100000 in
theorem xd_X11_put : xm_dec xM_X11_put = true := by decide +kernel
set_option maxRecDepth 100000 in
theorem xk_X11_put : xm_chkM xSL xZL xQL xCI xCJ 11 xM_X11_put = true := by decide +kernel
theorem xo_X11_put : xm_okM xSL xZL xQL xX xM_X11_put := xm_okM_of xtabs (o := 11) rfl xk_X11_put xd_X11_put
set_option maxRecDepth 100000 in
theorem xd_X11_putText : xm_dec xM_X11_putText = true := by decide +kernel
set_option maxRecDepth 100000 in
theorem xk_X11_putText : xm_chkM xSL xZL xQL xCI xCJ 11 xM_X11_putText = true := by decide +kernel
theorem xo_X11_putText : xm_okM xSL xZL xQL xX xM_X11_putText := xm_okM_of xtabs (o := 11) rfl xk_X11_putText xd_X11_putText
set_option maxRecDepth 100000 in
theorem xd_X11_putNumber : xm_dec xM_X11_putNumber = true := by decide +kernel
set_option maxRecDepth 100000 in
theorem xk_X11_putNumber : xm_chkM xSL xZL xQL xCI xCJ 11 xM_X11_putNumber = true := by decide +kernel
theorem xo_X11_putNumber : xm_okM xSL xZL xQL xX xM_X11_putNumber := xm_okM_of xtabs (o := 11) rfl xk_X11_putNumber xd_X11_putNumber
set_option maxRecDepth 100000 in
theorem xd_X11_putName : xm_dec xM_X11_putName = true := by decide +kernel
set_option maxRecDepth 100000 in
theorem xk_X11_putName : xm_chkM xSL xZL xQL xCI xCJ 11 xM_X11_putName = true := by decide +kernel
theorem xo_X11_putName : xm_okM xSL xZL xQL xX xM_X11_putName := xm_okM_of xtabs (o := 11) rfl xk_X11_putName xd_X11_putName
set_option maxRecDepth 100000 in
theorem xd_X11_modeWord : xm_dec xM_X11_modeWord = true := by decide +kernel
set_option maxRecDepth 100000 in
theorem xk_X11_modeWord : xm_chkM xSL xZL xQL xCI xCJ 11 xM_X11_modeWord = true := by decide +kernel
theorem xo_X11_modeWord : xm_okM xSL xZL xQL xX xM_X11_modeWord := xm_okM_of xtabs (o := 11) rfl xk_X11_modeWord xd_X11_modeWord
set_option maxRecDepth 100000 in
theorem xd_X11_write : xm_dec xM_X11_write = true := by decide +kernel
set_option maxRecDepth 100000 in
theorem xk_X11_write : xm_chkM xSL xZL xQL xCI xCJ 11 xM_X11_write = true := by decide +kernel
theorem xo_X11_write : xm_okM xSL xZL xQL xX xM_X11_write := xm_okM_of xtabs (o := 11) rfl xk_X11_write xd_X11_write
set_option maxRecDepth 100000 in
theorem xd_X11_written : xm_dec xM_X11_written = true := by decide +kernel
set_option maxRecDepth 100000 in
theorem xk_X11_written : xm_chkM xSL xZL xQL xCI xCJ 11 xM_X11_written = true := by decide +kernel
theorem xo_X11_written : xm_okM xSL xZL xQL xX xM_X11_written := xm_okM_of xtabs (o := 11) rfl xk_X11_written xd_X11_written
set_option maxRecDepth 100000 in
theorem xd_J5_init_d00df : xm_dec xM_J5_init_d00df = true := by decide +kernel
set_option maxRecDepth 100000 in
theorem xk_J5_init_d00df : xm_chkM xSL xZL xQL xCI xCJ 12 xM_J5_init_d00df = true := by decide +kernel
theorem xo_J5_init_d00df : xm_okM xSL xZL xQL xX xM_J5_init_d00df := xm_okM_of xtabs (o := 12) rfl xk_J5_init_d00df xd_J5_init_d00df
set_option maxRecDepth 100000 in
theorem xd_J5_length_8abf5 : xm_dec xM_J5_length_8abf5 = true := by decide +kernel
set_option maxRecDepth 100000 in
theorem xk_J5_length_8abf5 : xm_chkM xSL xZL xQL xCI xCJ 12 xM_J5_length_8abf5 = true := by decide +kernel
theorem xo_J5_length_8abf5 : xm_okM xSL xZL xQL xX xM_J5_length_8abf5 := xm_okM_of xtabs (o := 12) rfl xk_J5_length_8abf5 xd_J5_length_8abf5
set_option maxRecDepth 100000 in
theorem xd_J5_ensureCapacityInternal_d00df : xm_dec xM_J5_ensureCapacityInternal_d00df = true := by decide +kernel
set_option maxRecDepth 100000 in
theorem xk_J5_ensureCapacityInternal_d00df : xm_chkM xSL xZL xQL xCI xCJ 12 xM_J5_ensureCapacityInternal_d00df = true := by decide +kernel
theorem xo_J5_ensureCapacityInternal_d00df : xm_okM xSL xZL xQL xX xM_J5_ensureCapacityInternal_d00df := xm_okM_of xtabs (o := 12) rfl xk_J5_ensureCapacityInternal_d00df xd_J5_ensureCapacityInternal_d00df
set_option maxRecDepth 100000 in
theorem xd_J5_newCapacity_0f7a4 : xm_dec xM_J5_newCapacity_0f7a4 = true := by decide +kernel
set_option maxRecDepth 100000 in
theorem xk_J5_newCapacity_0f7a4 : xm_chkM xSL xZL xQL xCI xCJ 12 xM_J5_newCapacity_0f7a4 = true := by decide +kernel
theorem xo_J5_newCapacity_0f7a4 : xm_okM xSL xZL xQL xX xM_J5_newCapacity_0f7a4 := xm_okM_of xtabs (o := 12) rfl xk_J5_newCapacity_0f7a4 xd_J5_newCapacity_0f7a4
set_option maxRecDepth 100000 in
theorem xd_J5_inflate_da8c8 : xm_dec xM_J5_inflate_da8c8 = true := by decide +kernel
set_option maxRecDepth 100000 in
theorem xk_J5_inflate_da8c8 : xm_chkM xSL xZL xQL xCI xCJ 12 xM_J5_inflate_da8c8 = true := by decide +kernel
theorem xo_J5_inflate_da8c8 : xm_okM xSL xZL xQL xX xM_J5_inflate_da8c8 := xm_okM_of xtabs (o := 12) rfl xk_J5_inflate_da8c8 xd_J5_inflate_da8c8
set_option maxRecDepth 100000 in
theorem xd_J5_setLength_d00df : xm_dec xM_J5_setLength_d00df = true := by decide +kernel
set_option maxRecDepth 100000 in
theorem xk_J5_setLength_d00df : xm_chkM xSL xZL xQL xCI xCJ 12 xM_J5_setLength_d00df = true := by decide +kernel
theorem xo_J5_setLength_d00df : xm_okM xSL xZL xQL xX xM_J5_setLength_d00df := xm_okM_of xtabs (o := 12) rfl xk_J5_setLength_d00df xd_J5_setLength_d00df
set_option maxRecDepth 100000 in
theorem xd_J5_charAt_5068e : xm_dec xM_J5_charAt_5068e = true := by decide +kernel
set_option maxRecDepth 100000 in
theorem xk_J5_charAt_5068e : xm_chkM xSL xZL xQL xCI xCJ 12 xM_J5_charAt_5068e = true := by decide +kernel
theorem xo_J5_charAt_5068e : xm_okM xSL xZL xQL xX xM_J5_charAt_5068e := xm_okM_of xtabs (o := 12) rfl xk_J5_charAt_5068e xd_J5_charAt_5068e
set_option maxRecDepth 100000 in
theorem xd_J5_append_cf1ce : xm_dec xM_J5_append_cf1ce = true := by decide +kernel
set_option maxRecDepth 100000 in
theorem xk_J5_append_cf1ce : xm_chkM xSL xZL xQL xCI xCJ 12 xM_J5_append_cf1ce = true := by decide +kernel
theorem xo_J5_append_cf1ce : xm_okM xSL xZL xQL xX xM_J5_append_cf1ce := xm_okM_of xtabs (o := 12) rfl xk_J5_append_cf1ce xd_J5_append_cf1ce
set_option maxRecDepth 100000 in
theorem xd_J5_appendNull_278bc : xm_dec xM_J5_appendNull_278bc = true := by decide +kernel
set_option maxRecDepth 100000 in
theorem xk_J5_appendNull_278bc : xm_chkM xSL xZL xQL xCI xCJ 12 xM_J5_appendNull_278bc = true := by decide +kernel
theorem xo_J5_appendNull_278bc : xm_okM xSL xZL xQL xX xM_J5_appendNull_278bc := xm_okM_of xtabs (o := 12) rfl xk_J5_appendNull_278bc xd_J5_appendNull_278bc
set_option maxRecDepth 100000 in
theorem xd_J5_append_3fe6f : xm_dec xM_J5_append_3fe6f = true := by decide +kernel
set_option maxRecDepth 100000 in
theorem xk_J5_append_3fe6f : xm_chkM xSL xZL xQL xCI xCJ 12 xM_J5_append_3fe6f = true := by decide +kernel
theorem xo_J5_append_3fe6f : xm_okM xSL xZL xQL xX xM_J5_append_3fe6f := xm_okM_of xtabs (o := 12) rfl xk_J5_append_3fe6f xd_J5_append_3fe6f
set_option maxRecDepth 100000 in
theorem xd_J5_append_c97b9 : xm_dec xM_J5_append_c97b9 = true := by decide +kernel
set_option maxRecDepth 100000 in
theorem xk_J5_append_c97b9 : xm_chkM xSL xZL xQL xCI xCJ 12 xM_J5_append_c97b9 = true := by decide +kernel
theorem xo_J5_append_c97b9 : xm_okM xSL xZL xQL xX xM_J5_append_c97b9 := xm_okM_of xtabs (o := 12) rfl xk_J5_append_c97b9 xd_J5_append_c97b9
set_option maxRecDepth 100000 in
theorem xd_J5_getValue_6d5f1 : xm_dec xM_J5_getValue_6d5f1 = true := by decide +kernel
set_option maxRecDepth 100000 in
theorem xk_J5_getValue_6d5f1 : xm_chkM xSL xZL xQL xCI xCJ 12 xM_J5_getValue_6d5f1 = true := by decide +kernel
theorem xo_J5_getValue_6d5f1 : xm_okM xSL xZL xQL xX xM_J5_getValue_6d5f1 := xm_okM_of xtabs (o := 12) rfl xk_J5_getValue_6d5f1 xd_J5_getValue_6d5f1
set_option maxRecDepth 100000 in
theorem xd_J5_isLatin1_aae02 : xm_dec xM_J5_isLatin1_aae02 = true := by decide +kernel
set_option maxRecDepth 100000 in
theorem xk_J5_isLatin1_aae02 : xm_chkM xSL xZL xQL xCI xCJ 12 xM_J5_isLatin1_aae02 = true := by decide +kernel
theorem xo_J5_isLatin1_aae02 : xm_okM xSL xZL xQL xX xM_J5_isLatin1_aae02 := xm_okM_of xtabs (o := 12) rfl xk_J5_isLatin1_aae02 xd_J5_isLatin1_aae02
set_option maxRecDepth 100000 in
theorem xd_J5_inflateIfNeededFor_a7421 : xm_dec xM_J5_inflateIfNeededFor_a7421 = true := by decide +kernel
set_option maxRecDepth 100000 in
theorem xk_J5_inflateIfNeededFor_a7421 : xm_chkM xSL xZL xQL xCI xCJ 12 xM_J5_inflateIfNeededFor_a7421 = true := by decide +kernel
theorem xo_J5_inflateIfNeededFor_a7421 : xm_okM xSL xZL xQL xX xM_J5_inflateIfNeededFor_a7421 := xm_okM_of xtabs (o := 12) rfl xk_J5_inflateIfNeededFor_a7421 xd_J5_inflateIfNeededFor_a7421
set_option maxRecDepth 100000 in
theorem xd_J5_putStringAt_47b60 : xm_dec xM_J5_putStringAt_47b60 = true := by decide +kernel
set_option maxRecDepth 100000 in
theorem xk_J5_putStringAt_47b60 : xm_chkM xSL xZL xQL xCI xCJ 12 xM_J5_putStringAt_47b60 = true := by decide +kernel
theorem xo_J5_putStringAt_47b60 : xm_okM xSL xZL xQL xX xM_J5_putStringAt_47b60 := xm_okM_of xtabs (o := 12) rfl xk_J5_putStringAt_47b60 xd_J5_putStringAt_47b60
set_option maxRecDepth 100000 in
theorem xd_Jx00060_init_d00df : xm_dec xM_Jx00060_init_d00df = true := by decide +kernel
set_option maxRecDepth 100000 in
theorem xk_Jx00060_init_d00df : xm_chkM xSL xZL xQL xCI xCJ 13 xM_Jx00060_init_d00df = true := by decide +kernel
theorem xo_Jx00060_init_d00df : xm_okM xSL xZL xQL xX xM_Jx00060_init_d00df := xm_okM_of xtabs (o := 13) rfl xk_Jx00060_init_d00df xd_Jx00060_init_d00df
set_option maxRecDepth 100000 in
theorem xd_J6_getChars_ba4f3 : xm_dec xM_J6_getChars_ba4f3 = true := by decide +kernel
set_option maxRecDepth 100000 in
theorem xk_J6_getChars_ba4f3 : xm_chkM xSL xZL xQL xCI xCJ 14 xM_J6_getChars_ba4f3 = true := by decide +kernel
theorem xo_J6_getChars_ba4f3 : xm_okM xSL xZL xQL xX xM_J6_getChars_ba4f3 := xm_okM_of xtabs (o := 14) rfl xk_J6_getChars_ba4f3 xd_J6_getChars_ba4f3
set_option maxRecDepth 100000 in
theorem xd_J6_stringSize_0f7a4 : xm_dec xM_J6_stringSize_0f7a4 = true := by decide +kernel
set_option maxRecDepth 100000 in
theorem xk_J6_stringSize_0f7a4 : xm_chkM xSL xZL xQL xCI xCJ 14 xM_J6_stringSize_0f7a4 = true := by decide +kernel
theorem xo_J6_stringSize_0f7a4 : xm_okM xSL xZL xQL xX xM_J6_stringSize_0f7a4 := xm_okM_of xtabs (o := 14) rfl xk_J6_stringSize_0f7a4 xd_J6_stringSize_0f7a4
set_option maxRecDepth 100000 in
theorem xd_J6_bitCount_0f7a4 : xm_dec xM_J6_bitCount_0f7a4 = true := by decide +kernel
set_option maxRecDepth 100000 in
theorem xk_J6_bitCount_0f7a4 : xm_chkM xSL xZL xQL xCI xCJ 14 xM_J6_bitCount_0f7a4 = true := by decide +kernel
theorem xo_J6_bitCount_0f7a4 : xm_okM xSL xZL xQL xX xM_J6_bitCount_0f7a4 := xm_okM_of xtabs (o := 14) rfl xk_J6_bitCount_0f7a4 xd_J6_bitCount_0f7a4
set_option maxRecDepth 100000 in
theorem xd_J0_init_905df : xm_dec xM_J0_init_905df = true := by decide +kernel
set_option maxRecDepth 100000 in
theorem xk_J0_init_905df : xm_chkM xSL xZL xQL xCI xCJ 15 xM_J0_init_905df = true := by decide +kernel
theorem xo_J0_init_905df : xm_okM xSL xZL xQL xX xM_J0_init_905df := xm_okM_of xtabs (o := 15) rfl xk_J0_init_905df xd_J0_init_905df
set_option maxRecDepth 100000 in
theorem xd_J0_init_81219 : xm_dec xM_J0_init_81219 = true := by decide +kernel
set_option maxRecDepth 100000 in
theorem xk_J0_init_81219 : xm_chkM xSL xZL xQL xCI xCJ 15 xM_J0_init_81219 = true := by decide +kernel
theorem xo_J0_init_81219 : xm_okM xSL xZL xQL xX xM_J0_init_81219 := xm_okM_of xtabs (o := 15) rfl xk_J0_init_81219 xd_J0_init_81219
set_option maxRecDepth 100000 in
theorem xd_J0_length_8abf5 : xm_dec xM_J0_length_8abf5 = true := by decide +kernel
set_option maxRecDepth 100000 in
theorem xk_J0_length_8abf5 : xm_chkM xSL xZL xQL xCI xCJ 15 xM_J0_length_8abf5 = true := by decide +kernel
theorem xo_J0_length_8abf5 : xm_okM xSL xZL xQL xX xM_J0_length_8abf5 := xm_okM_of xtabs (o := 15) rfl xk_J0_length_8abf5 xd_J0_length_8abf5
set_option maxRecDepth 100000 in
theorem xd_J0_charAt_5068e : xm_dec xM_J0_charAt_5068e = true := by decide +kernel
set_option maxRecDepth 100000 in
theorem xk_J0_charAt_5068e : xm_chkM xSL xZL xQL xCI xCJ 15 xM_J0_charAt_5068e = true := by decide +kernel
theorem xo_J0_charAt_5068e : xm_okM xSL xZL xQL xX xM_J0_charAt_5068e := xm_okM_of xtabs (o := 15) rfl xk_J0_charAt_5068e xd_J0_charAt_5068e
set_option maxRecDepth 100000 in
theorem xd_J0_getBytes_840e7 : xm_dec xM_J0_getBytes_840e7 = true := by decide +kernel
set_option maxRecDepth 100000 in
theorem xk_J0_getBytes_840e7 : xm_chkM xSL xZL xQL xCI xCJ 15 xM_J0_getBytes_840e7 = true := by decide +kernel
theorem xo_J0_getBytes_840e7 : xm_okM xSL xZL xQL xX xM_J0_getBytes_840e7 := xm_okM_of xtabs (o := 15) rfl xk_J0_getBytes_840e7 xd_J0_getBytes_840e7
set_option maxRecDepth 100000 in
theorem xd_J0_init_bb550 : xm_dec xM_J0_init_bb550 = true := by decide +kernel
set_option maxRecDepth 100000 in
theorem xk_J0_init_bb550 : xm_chkM xSL xZL xQL xCI xCJ 15 xM_J0_init_bb550 = true := by decide +kernel
theorem xo_J0_init_bb550 : xm_okM xSL xZL xQL xX xM_J0_init_bb550 := xm_okM_of xtabs (o := 15) rfl xk_J0_init_bb550 xd_J0_init_bb550
set_option maxRecDepth 100000 in
theorem xd_J0_init_db425 : xm_dec xM_J0_init_db425 = true := by decide +kernel
set_option maxRecDepth 100000 in
theorem xk_J0_init_db425 : xm_chkM xSL xZL xQL xCI xCJ 15 xM_J0_init_db425 = true := by decide +kernel
theorem xo_J0_init_db425 : xm_okM xSL xZL xQL xX xM_J0_init_db425 := xm_okM_of xtabs (o := 15) rfl xk_J0_init_db425 xd_J0_init_db425
set_option maxRecDepth 100000 in
theorem xd_J0_coder_7d493 : xm_dec xM_J0_coder_7d493 = true := by decide +kernel
set_option maxRecDepth 100000 in
theorem xk_J0_coder_7d493 : xm_chkM xSL xZL xQL xCI xCJ 15 xM_J0_coder_7d493 = true := by decide +kernel
theorem xo_J0_coder_7d493 : xm_okM xSL xZL xQL xX xM_J0_coder_7d493 := xm_okM_of xtabs (o := 15) rfl xk_J0_coder_7d493 xd_J0_coder_7d493
set_option maxRecDepth 100000 in
theorem xd_J0_isLatin1_aae02 : xm_dec xM_J0_isLatin1_aae02 = true := by decide +kernel
set_option maxRecDepth 100000 in
theorem xk_J0_isLatin1_aae02 : xm_chkM xSL xZL xQL xCI xCJ 15 xM_J0_isLatin1_aae02 = true := by decide +kernel
theorem xo_J0_isLatin1_aae02 : xm_okM xSL xZL xQL xX xM_J0_isLatin1_aae02 := xm_okM_of xtabs (o := 15) rfl xk_J0_isLatin1_aae02 xd_J0_isLatin1_aae02
set_option maxRecDepth 100000 in
theorem xd_J0_checkIndex_df160 : xm_dec xM_J0_checkIndex_df160 = true := by decide +kernel
set_option maxRecDepth 100000 in
theorem xk_J0_checkIndex_df160 : xm_chkM xSL xZL xQL xCI xCJ 15 xM_J0_checkIndex_df160 = true := by decide +kernel
theorem xo_J0_checkIndex_df160 : xm_okM xSL xZL xQL xX xM_J0_checkIndex_df160 := xm_okM_of xtabs (o := 15) rfl xk_J0_checkIndex_df160 xd_J0_checkIndex_df160
set_option maxRecDepth 100000 in
theorem xd_J0_checkBoundsOffCount_cabcc : xm_dec xM_J0_checkBoundsOffCount_cabcc = true := by decide +kernel
set_option maxRecDepth 100000 in
theorem xk_J0_checkBoundsOffCount_cabcc : xm_chkM xSL xZL xQL xCI xCJ 15 xM_J0_checkBoundsOffCount_cabcc = true := by decide +kernel
theorem xo_J0_checkBoundsOffCount_cabcc : xm_okM xSL xZL xQL xX xM_J0_checkBoundsOffCount_cabcc := xm_okM_of xtabs (o := 15) rfl xk_J0_checkBoundsOffCount_cabcc xd_J0_checkBoundsOffCount_cabcc
set_option maxRecDepth 100000 in
theorem xd_J0_checkBoundsBeginEnd_23922 : xm_dec xM_J0_checkBoundsBeginEnd_23922 = true := by decide +kernel
set_option maxRecDepth 100000 in
theorem xk_J0_checkBoundsBeginEnd_23922 : xm_chkM xSL xZL xQL xCI xCJ 15 xM_J0_checkBoundsBeginEnd_23922 = true := by decide +kernel
theorem xo_J0_checkBoundsBeginEnd_23922 : xm_okM xSL xZL xQL xX xM_J0_checkBoundsBeginEnd_23922 := xm_okM_of xtabs (o := 15) rfl xk_J0_checkBoundsBeginEnd_23922 xd_J0_checkBoundsBeginEnd_23922
set_option maxRecDepth 100000 in
theorem xd_J4_init_da8c8 : xm_dec xM_J4_init_da8c8 = true := by decide +kernel
set_option maxRecDepth 100000 in
theorem xk_J4_init_da8c8 : xm_chkM xSL xZL xQL xCI xCJ 16 xM_J4_init_da8c8 = true := by decide +kernel
theorem xo_J4_init_da8c8 : xm_okM xSL xZL xQL xX xM_J4_init_da8c8 := xm_okM_of xtabs (o := 16) rfl xk_J4_init_da8c8 xd_J4_init_da8c8
set_option maxRecDepth 100000 in
theorem xd_J4_append_15ec4 : xm_dec xM_J4_append_15ec4 = true := by decide +kernel
set_option maxRecDepth 100000 in
theorem xk_J4_append_15ec4 : xm_chkM xSL xZL xQL xCI xCJ 16 xM_J4_append_15ec4 = true := by decide +kernel
theorem xo_J4_append_15ec4 : xm_okM xSL xZL xQL xX xM_J4_append_15ec4 := xm_okM_of xtabs (o := 16) rfl xk_J4_append_15ec4 xd_J4_append_15ec4
set_option maxRecDepth 100000 in
theorem xd_J4_append_cf468 : xm_dec xM_J4_append_cf468 = true := by decide +kernel
set_option maxRecDepth 100000 in
theorem xk_J4_append_cf468 : xm_chkM xSL xZL xQL xCI xCJ 16 xM_J4_append_cf468 = true := by decide +kernel
theorem xo_J4_append_cf468 : xm_okM xSL xZL xQL xX xM_J4_append_cf468 := xm_okM_of xtabs (o := 16) rfl xk_J4_append_cf468 xd_J4_append_cf468
set_option maxRecDepth 100000 in
theorem xd_J4_append_bf812 : xm_dec xM_J4_append_bf812 = true := by decide +kernel
set_option maxRecDepth 100000 in
theorem xk_J4_append_bf812 : xm_chkM xSL xZL xQL xCI xCJ 16 xM_J4_append_bf812 = true := by decide +kernel
theorem xo_J4_append_bf812 : xm_okM xSL xZL xQL xX xM_J4_append_bf812 := xm_okM_of xtabs (o := 16) rfl xk_J4_append_bf812 xd_J4_append_bf812
set_option maxRecDepth 100000 in
theorem xd_J4_toString_0e30d : xm_dec xM_J4_toString_0e30d = true := by decide +kernel
set_option maxRecDepth 100000 in
theorem xk_J4_toString_0e30d : xm_chkM xSL xZL xQL xCI xCJ 16 xM_J4_toString_0e30d = true := by decide +kernel
theorem xo_J4_toString_0e30d : xm_okM xSL xZL xQL xX xM_J4_toString_0e30d := xm_okM_of xtabs (o := 16) rfl xk_J4_toString_0e30d xd_J4_toString_0e30d
set_option maxRecDepth 100000 in
theorem xd_J4_charAt_5068e : xm_dec xM_J4_charAt_5068e = true := by decide +kernel
set_option maxRecDepth 100000 in
theorem xk_J4_charAt_5068e : xm_chkM xSL xZL xQL xCI xCJ 16 xM_J4_charAt_5068e = true := by decide +kernel
theorem xo_J4_charAt_5068e : xm_okM xSL xZL xQL xX xM_J4_charAt_5068e := xm_okM_of xtabs (o := 16) rfl xk_J4_charAt_5068e xd_J4_charAt_5068e
set_option maxRecDepth 100000 in
theorem xd_J4_setLength_d00df : xm_dec xM_J4_setLength_d00df = true := by decide +kernel
set_option maxRecDepth 100000 in
theorem xk_J4_setLength_d00df : xm_chkM xSL xZL xQL xCI xCJ 16 xM_J4_setLength_d00df = true := by decide +kernel
theorem xo_J4_setLength_d00df : xm_okM xSL xZL xQL xX xM_J4_setLength_d00df := xm_okM_of xtabs (o := 16) rfl xk_J4_setLength_d00df xd_J4_setLength_d00df
set_option maxRecDepth 100000 in
theorem xd_J4_length_8abf5 : xm_dec xM_J4_length_8abf5 = true := by decide +kernel
set_option maxRecDepth 100000 in
theorem xk_J4_length_8abf5 : xm_chkM xSL xZL xQL xCI xCJ 16 xM_J4_length_8abf5 = true := by decide +kernel
theorem xo_J4_length_8abf5 : xm_okM xSL xZL xQL xX xM_J4_length_8abf5 := xm_okM_of xtabs (o := 16) rfl xk_J4_length_8abf5 xd_J4_length_8abf5
set_option maxRecDepth 100000 in
theorem xd_Jx7c733_init_d00df : xm_dec xM_Jx7c733_init_d00df = true := by decide +kernel
set_option maxRecDepth 100000 in
theorem xk_Jx7c733_init_d00df : xm_chkM xSL xZL xQL xCI xCJ 17 xM_Jx7c733_init_d00df = true := by decide +kernel
theorem xo_Jx7c733_init_d00df : xm_okM xSL xZL xQL xX xM_Jx7c733_init_d00df := xm_okM_of xtabs (o := 17) rfl xk_Jx7c733_init_d00df xd_Jx7c733_init_d00df
set_option maxRecDepth 100000 in
theorem xd_J1_charAt_3b067 : xm_dec xM_J1_charAt_3b067 = true := by decide +kernel
set_option maxRecDepth 100000 in
theorem xk_J1_charAt_3b067 : xm_chkM xSL xZL xQL xCI xCJ 18 xM_J1_charAt_3b067 = true := by decide +kernel
theorem xo_J1_charAt_3b067 : xm_okM xSL xZL xQL xX xM_J1_charAt_3b067 := xm_okM_of xtabs (o := 18) rfl xk_J1_charAt_3b067 xd_J1_charAt_3b067
set_option maxRecDepth 100000 in
theorem xd_J1_canEncode_fc78d : xm_dec xM_J1_canEncode_fc78d = true := by decide +kernel
set_option maxRecDepth 100000 in
theorem xk_J1_canEncode_fc78d : xm_chkM xSL xZL xQL xCI xCJ 18 xM_J1_canEncode_fc78d = true := by decide +kernel
theorem xo_J1_canEncode_fc78d : xm_okM xSL xZL xQL xX xM_J1_canEncode_fc78d := xm_okM_of xtabs (o := 18) rfl xk_J1_canEncode_fc78d xd_J1_canEncode_fc78d
set_option maxRecDepth 100000 in
theorem xd_J1_fillNull_b72d1 : xm_dec xM_J1_fillNull_b72d1 = true := by decide +kernel
set_option maxRecDepth 100000 in
theorem xk_J1_fillNull_b72d1 : xm_chkM xSL xZL xQL xCI xCJ 18 xM_J1_fillNull_b72d1 = true := by decide +kernel
theorem xo_J1_fillNull_b72d1 : xm_okM xSL xZL xQL xX xM_J1_fillNull_b72d1 := xm_okM_of xtabs (o := 18) rfl xk_J1_fillNull_b72d1 xd_J1_fillNull_b72d1
set_option maxRecDepth 100000 in
theorem xd_J1_inflate_0e8fd : xm_dec xM_J1_inflate_0e8fd = true := by decide +kernel
set_option maxRecDepth 100000 in
theorem xk_J1_inflate_0e8fd : xm_chkM xSL xZL xQL xCI xCJ 18 xM_J1_inflate_0e8fd = true := by decide +kernel
theorem xo_J1_inflate_0e8fd : xm_okM xSL xZL xQL xX xM_J1_inflate_0e8fd := xm_okM_of xtabs (o := 18) rfl xk_J1_inflate_0e8fd xd_J1_inflate_0e8fd
set_option maxRecDepth 100000 in
theorem xd_J2_newBytesFor_77867 : xm_dec xM_J2_newBytesFor_77867 = true := by decide +kernel
set_option maxRecDepth 100000 in
theorem xk_J2_newBytesFor_77867 : xm_chkM xSL xZL xQL xCI xCJ 19 xM_J2_newBytesFor_77867 = true := by decide +kernel
theorem xo_J2_newBytesFor_77867 : xm_okM xSL xZL xQL xX xM_J2_newBytesFor_77867 := xm_okM_of xtabs (o := 19) rfl xk_J2_newBytesFor_77867 xd_J2_newBytesFor_77867
set_option maxRecDepth 100000 in
theorem xd_J2_newBytesLength_0f7a4 : xm_dec xM_J2_newBytesLength_0f7a4 = true := by decide +kernel
set_option maxRecDepth 100000 in
theorem xk_J2_newBytesLength_0f7a4 : xm_chkM xSL xZL xQL xCI xCJ 19 xM_J2_newBytesLength_0f7a4 = true := by decide +kernel
theorem xo_J2_newBytesLength_0f7a4 : xm_okM xSL xZL xQL xX xM_J2_newBytesLength_0f7a4 := xm_okM_of xtabs (o := 19) rfl xk_J2_newBytesLength_0f7a4 xd_J2_newBytesLength_0f7a4
set_option maxRecDepth 100000 in
theorem xd_J2_putChar_b72d1 : xm_dec xM_J2_putChar_b72d1 = true := by decide +kernel
set_option maxRecDepth 100000 in
theorem xk_J2_putChar_b72d1 : xm_chkM xSL xZL xQL xCI xCJ 19 xM_J2_putChar_b72d1 = true := by decide +kernel
theorem xo_J2_putChar_b72d1 : xm_okM xSL xZL xQL xX xM_J2_putChar_b72d1 := xm_okM_of xtabs (o := 19) rfl xk_J2_putChar_b72d1 xd_J2_putChar_b72d1
set_option maxRecDepth 100000 in
theorem xd_J2_getChar_3b067 : xm_dec xM_J2_getChar_3b067 = true := by decide +kernel
set_option maxRecDepth 100000 in
theorem xk_J2_getChar_3b067 : xm_chkM xSL xZL xQL xCI xCJ 19 xM_J2_getChar_3b067 = true := by decide +kernel
theorem xo_J2_getChar_3b067 : xm_okM xSL xZL xQL xX xM_J2_getChar_3b067 := xm_okM_of xtabs (o := 19) rfl xk_J2_getChar_3b067 xd_J2_getChar_3b067
set_option maxRecDepth 100000 in
theorem xd_J2_length_9d52b : xm_dec xM_J2_length_9d52b = true := by decide +kernel
set_option maxRecDepth 100000 in
theorem xk_J2_length_9d52b : xm_chkM xSL xZL xQL xCI xCJ 19 xM_J2_length_9d52b = true := by decide +kernel
theorem xo_J2_length_9d52b : xm_okM xSL xZL xQL xX xM_J2_length_9d52b := xm_okM_of xtabs (o := 19) rfl xk_J2_length_9d52b xd_J2_length_9d52b
set_option maxRecDepth 100000 in
theorem xd_J2_toBytes_dfd3c : xm_dec xM_J2_toBytes_dfd3c = true := by decide +kernel
set_option maxRecDepth 100000 in
theorem xk_J2_toBytes_dfd3c : xm_chkM xSL xZL xQL xCI xCJ 19 xM_J2_toBytes_dfd3c = true := by decide +kernel
theorem xo_J2_toBytes_dfd3c : xm_okM xSL xZL xQL xX xM_J2_toBytes_dfd3c := xm_okM_of xtabs (o := 19) rfl xk_J2_toBytes_dfd3c xd_J2_toBytes_dfd3c
set_option maxRecDepth 100000 in
theorem xd_J2_coderFromArrayLen_85cad : xm_dec xM_J2_coderFromArrayLen_85cad = true := by decide +kernel
set_option maxRecDepth 100000 in
theorem xk_J2_coderFromArrayLen_85cad : xm_chkM xSL xZL xQL xCI xCJ 19 xM_J2_coderFromArrayLen_85cad = true := by decide +kernel
theorem xo_J2_coderFromArrayLen_85cad : xm_okM xSL xZL xQL xX xM_J2_coderFromArrayLen_85cad := xm_okM_of xtabs (o := 19) rfl xk_J2_coderFromArrayLen_85cad xd_J2_coderFromArrayLen_85cad
set_option maxRecDepth 100000 in
theorem xd_J2_compress_dfd3c : xm_dec xM_J2_compress_dfd3c = true := by decide +kernel
set_option maxRecDepth 100000 in
theorem xk_J2_compress_dfd3c : xm_chkM xSL xZL xQL xCI xCJ 19 xM_J2_compress_dfd3c = true := by decide +kernel
theorem xo_J2_compress_dfd3c : xm_okM xSL xZL xQL xX xM_J2_compress_dfd3c := xm_okM_of xtabs (o := 19) rfl xk_J2_compress_dfd3c xd_J2_compress_dfd3c
set_option maxRecDepth 100000 in
theorem xd_J2_compress_39247 : xm_dec xM_J2_compress_39247 = true := by decide +kernel
set_option maxRecDepth 100000 in
theorem xk_J2_compress_39247 : xm_chkM xSL xZL xQL xCI xCJ 19 xM_J2_compress_39247 = true := by decide +kernel
theorem xo_J2_compress_39247 : xm_okM xSL xZL xQL xX xM_J2_compress_39247 := xm_okM_of xtabs (o := 19) rfl xk_J2_compress_39247 xd_J2_compress_39247
set_option maxRecDepth 100000 in
theorem xd_J2_compress_fe38e : xm_dec xM_J2_compress_fe38e = true := by decide +kernel
set_option maxRecDepth 100000 in
theorem xk_J2_compress_fe38e : xm_chkM xSL xZL xQL xCI xCJ 19 xM_J2_compress_fe38e = true := by decide +kernel
theorem xo_J2_compress_fe38e : xm_okM xSL xZL xQL xX xM_J2_compress_fe38e := xm_okM_of xtabs (o := 19) rfl xk_J2_compress_fe38e xd_J2_compress_fe38e
set_option maxRecDepth 100000 in
theorem xd_J2_compress_5af95 : xm_dec xM_J2_compress_5af95 = true := by decide +kernel
set_option maxRecDepth 100000 in
theorem xk_J2_compress_5af95 : xm_chkM xSL xZL xQL xCI xCJ 19 xM_J2_compress_5af95 = true := by decide +kernel
theorem xo_J2_compress_5af95 : xm_okM xSL xZL xQL xX xM_J2_compress_5af95 := xm_okM_of xtabs (o := 19) rfl xk_J2_compress_5af95 xd_J2_compress_5af95
set_option maxRecDepth 100000 in
theorem xd_J2_fillNull_b72d1 : xm_dec xM_J2_fillNull_b72d1 = true := by decide +kernel
set_option maxRecDepth 100000 in
theorem xk_J2_fillNull_b72d1 : xm_chkM xSL xZL xQL xCI xCJ 19 xM_J2_fillNull_b72d1 = true := by decide +kernel
theorem xo_J2_fillNull_b72d1 : xm_okM xSL xZL xQL xX xM_J2_fillNull_b72d1 := xm_okM_of xtabs (o := 19) rfl xk_J2_fillNull_b72d1 xd_J2_fillNull_b72d1
set_option maxRecDepth 100000 in
theorem xd_J2_putCharSB_b72d1 : xm_dec xM_J2_putCharSB_b72d1 = true := by decide +kernel
set_option maxRecDepth 100000 in
theorem xk_J2_putCharSB_b72d1 : xm_chkM xSL xZL xQL xCI xCJ 19 xM_J2_putCharSB_b72d1 = true := by decide +kernel
theorem xo_J2_putCharSB_b72d1 : xm_okM xSL xZL xQL xX xM_J2_putCharSB_b72d1 := xm_okM_of xtabs (o := 19) rfl xk_J2_putCharSB_b72d1 xd_J2_putCharSB_b72d1
set_option maxRecDepth 100000 in
theorem xd_J2_getChars_46870 : xm_dec xM_J2_getChars_46870 = true := by decide +kernel
set_option maxRecDepth 100000 in
theorem xk_J2_getChars_46870 : xm_chkM xSL xZL xQL xCI xCJ 19 xM_J2_getChars_46870 = true := by decide +kernel
theorem xo_J2_getChars_46870 : xm_okM xSL xZL xQL xX xM_J2_getChars_46870 := xm_okM_of xtabs (o := 19) rfl xk_J2_getChars_46870 xd_J2_getChars_46870
set_option maxRecDepth 100000 in
theorem xd_J2_putCharsAt_cd4e5 : xm_dec xM_J2_putCharsAt_cd4e5 = true := by decide +kernel
set_option maxRecDepth 100000 in
theorem xk_J2_putCharsAt_cd4e5 : xm_chkM xSL xZL xQL xCI xCJ 19 xM_J2_putCharsAt_cd4e5 = true := by decide +kernel
theorem xo_J2_putCharsAt_cd4e5 : xm_okM xSL xZL xQL xX xM_J2_putCharsAt_cd4e5 := xm_okM_of xtabs (o := 19) rfl xk_J2_putCharsAt_cd4e5 xd_J2_putCharsAt_cd4e5
set_option maxRecDepth 100000 in
theorem xd_J2_charAt_3b067 : xm_dec xM_J2_charAt_3b067 = true := by decide +kernel
set_option maxRecDepth 100000 in
theorem xk_J2_charAt_3b067 : xm_chkM xSL xZL xQL xCI xCJ 19 xM_J2_charAt_3b067 = true := by decide +kernel
theorem xo_J2_charAt_3b067 : xm_okM xSL xZL xQL xX xM_J2_charAt_3b067 := xm_okM_of xtabs (o := 19) rfl xk_J2_charAt_3b067 xd_J2_charAt_3b067
set_option maxRecDepth 100000 in
theorem xd_J2_inflate_0e8fd : xm_dec xM_J2_inflate_0e8fd = true := by decide +kernel
set_option maxRecDepth 100000 in
theorem xk_J2_inflate_0e8fd : xm_chkM xSL xZL xQL xCI xCJ 19 xM_J2_inflate_0e8fd = true := by decide +kernel
theorem xo_J2_inflate_0e8fd : xm_okM xSL xZL xQL xX xM_J2_inflate_0e8fd := xm_okM_of xtabs (o := 19) rfl xk_J2_inflate_0e8fd xd_J2_inflate_0e8fd
set_option maxRecDepth 100000 in
theorem xd_J2_getChars_ba4f3 : xm_dec xM_J2_getChars_ba4f3 = true := by decide +kernel
set_option maxRecDepth 100000 in
theorem xk_J2_getChars_ba4f3 : xm_chkM xSL xZL xQL xCI xCJ 19 xM_J2_getChars_ba4f3 = true := by decide +kernel
theorem xo_J2_getChars_ba4f3 : xm_okM xSL xZL xQL xX xM_J2_getChars_ba4f3 := xm_okM_of xtabs (o := 19) rfl xk_J2_getChars_ba4f3 xd_J2_getChars_ba4f3
set_option maxRecDepth 100000 in
theorem xd_J2_checkIndex_2214a : xm_dec xM_J2_checkIndex_2214a = true := by decide +kernel
set_option maxRecDepth 100000 in
theorem xk_J2_checkIndex_2214a : xm_chkM xSL xZL xQL xCI xCJ 19 xM_J2_checkIndex_2214a = true := by decide +kernel
theorem xo_J2_checkIndex_2214a : xm_okM xSL xZL xQL xX xM_J2_checkIndex_2214a := xm_okM_of xtabs (o := 19) rfl xk_J2_checkIndex_2214a xd_J2_checkIndex_2214a
set_option maxRecDepth 100000 in
theorem xd_J2_checkBoundsBeginEnd_d044e : xm_dec xM_J2_checkBoundsBeginEnd_d044e = true := by decide +kernel
set_option maxRecDepth 100000 in
theorem xk_J2_checkBoundsBeginEnd_d044e : xm_chkM xSL xZL xQL xCI xCJ 19 xM_J2_checkBoundsBeginEnd_d044e = true := by decide +kernel
theorem xo_J2_checkBoundsBeginEnd_d044e : xm_okM xSL xZL xQL xX xM_J2_checkBoundsBeginEnd_d044e := xm_okM_of xtabs (o := 19) rfl xk_J2_checkBoundsBeginEnd_d044e xd_J2_checkBoundsBeginEnd_d044e
set_option maxRecDepth 100000 in
theorem xd_J2_checkBoundsOffCount_d044e : xm_dec xM_J2_checkBoundsOffCount_d044e = true := by decide +kernel
set_option maxRecDepth 100000 in
theorem xk_J2_checkBoundsOffCount_d044e : xm_chkM xSL xZL xQL xCI xCJ 19 xM_J2_checkBoundsOffCount_d044e = true := by decide +kernel
theorem xo_J2_checkBoundsOffCount_d044e : xm_okM xSL xZL xQL xX xM_J2_checkBoundsOffCount_d044e := xm_okM_of xtabs (o := 19) rfl xk_J2_checkBoundsOffCount_d044e xd_J2_checkBoundsOffCount_d044e
set_option maxRecDepth 100000 in
theorem xd_J7_rangeCheck_23922 : xm_dec xM_J7_rangeCheck_23922 = true := by decide +kernel
set_option maxRecDepth 100000 in
theorem xk_J7_rangeCheck_23922 : xm_chkM xSL xZL xQL xCI xCJ 20 xM_J7_rangeCheck_23922 = true := by decide +kernel
theorem xo_J7_rangeCheck_23922 : xm_okM xSL xZL xQL xX xM_J7_rangeCheck_23922 := xm_okM_of xtabs (o := 20) rfl xk_J7_rangeCheck_23922 xd_J7_rangeCheck_23922
set_option maxRecDepth 100000 in
theorem xd_J7_fill_eb02e : xm_dec xM_J7_fill_eb02e = true := by decide +kernel
set_option maxRecDepth 100000 in
theorem xk_J7_fill_eb02e : xm_chkM xSL xZL xQL xCI xCJ 20 xM_J7_fill_eb02e = true := by decide +kernel
theorem xo_J7_fill_eb02e : xm_okM xSL xZL xQL xX xM_J7_fill_eb02e := xm_okM_of xtabs (o := 20) rfl xk_J7_fill_eb02e xd_J7_fill_eb02e
set_option maxRecDepth 100000 in
theorem xd_J7_copyOf_9075b : xm_dec xM_J7_copyOf_9075b = true := by decide +kernel
set_option maxRecDepth 100000 in
theorem xk_J7_copyOf_9075b : xm_chkM xSL xZL xQL xCI xCJ 20 xM_J7_copyOf_9075b = true := by decide +kernel
theorem xo_J7_copyOf_9075b : xm_okM xSL xZL xQL xX xM_J7_copyOf_9075b := xm_okM_of xtabs (o := 20) rfl xk_J7_copyOf_9075b xd_J7_copyOf_9075b
set_option maxRecDepth 100000 in
theorem xd_J7_checkLength_df160 : xm_dec xM_J7_checkLength_df160 = true := by decide +kernel
set_option maxRecDepth 100000 in
theorem xk_J7_checkLength_df160 : xm_chkM xSL xZL xQL xCI xCJ 20 xM_J7_checkLength_df160 = true := by decide +kernel
theorem xo_J7_checkLength_df160 : xm_okM xSL xZL xQL xX xM_J7_checkLength_df160 := xm_okM_of xtabs (o := 20) rfl xk_J7_checkLength_df160 xd_J7_checkLength_df160
set_option maxRecDepth 100000 in
theorem xd_J7_copyOfRange_39247 : xm_dec xM_J7_copyOfRange_39247 = true := by decide +kernel
set_option maxRecDepth 100000 in
theorem xk_J7_copyOfRange_39247 : xm_chkM xSL xZL xQL xCI xCJ 20 xM_J7_copyOfRange_39247 = true := by decide +kernel
theorem xo_J7_copyOfRange_39247 : xm_okM xSL xZL xQL xX xM_J7_copyOfRange_39247 := xm_okM_of xtabs (o := 20) rfl xk_J7_copyOfRange_39247 xd_J7_copyOfRange_39247
set_option maxRecDepth 100000 in
theorem xd_J7_copyOfRangeByte_39247 : xm_dec xM_J7_copyOfRangeByte_39247 = true := by decide +kernel
set_option maxRecDepth 100000 in
theorem xk_J7_copyOfRangeByte_39247 : xm_chkM xSL xZL xQL xCI xCJ 20 xM_J7_copyOfRangeByte_39247 = true := by decide +kernel
theorem xo_J7_copyOfRangeByte_39247 : xm_okM xSL xZL xQL xX xM_J7_copyOfRangeByte_39247 := xm_okM_of xtabs (o := 20) rfl xk_J7_copyOfRangeByte_39247 xd_J7_copyOfRangeByte_39247
set_option maxRecDepth 100000 in
theorem xd_J8_newLength_cabcc : xm_dec xM_J8_newLength_cabcc = true := by decide +kernel
set_option maxRecDepth 100000 in
theorem xk_J8_newLength_cabcc : xm_chkM xSL xZL xQL xCI xCJ 21 xM_J8_newLength_cabcc = true := by decide +kernel
theorem xo_J8_newLength_cabcc : xm_okM xSL xZL xQL xX xM_J8_newLength_cabcc := xm_okM_of xtabs (o := 21) rfl xk_J8_newLength_cabcc xd_J8_newLength_cabcc
set_option maxRecDepth 100000 in
theorem xd_J8_hugeLength_7cf53 : xm_dec xM_J8_hugeLength_7cf53 = true := by decide +kernel
set_option maxRecDepth 100000 in
theorem xk_J8_hugeLength_7cf53 : xm_chkM xSL xZL xQL xCI xCJ 21 xM_J8_hugeLength_7cf53 = true := by decide +kernel
theorem xo_J8_hugeLength_7cf53 : xm_okM xSL xZL xQL xX xM_J8_hugeLength_7cf53 := xm_okM_of xtabs (o := 21) rfl xk_J8_hugeLength_7cf53 xd_J8_hugeLength_7cf53
set_option maxRecDepth 100000 in
theorem xd_J3_checkIndex_8e157 : xm_dec xM_J3_checkIndex_8e157 = true := by decide +kernel
set_option maxRecDepth 100000 in
theorem xk_J3_checkIndex_8e157 : xm_chkM xSL xZL xQL xCI xCJ 22 xM_J3_checkIndex_8e157 = true := by decide +kernel
theorem xo_J3_checkIndex_8e157 : xm_okM xSL xZL xQL xX xM_J3_checkIndex_8e157 := xm_okM_of xtabs (o := 22) rfl xk_J3_checkIndex_8e157 xd_J3_checkIndex_8e157
set_option maxRecDepth 100000 in
theorem xd_J3_checkFromToIndex_8c36e : xm_dec xM_J3_checkFromToIndex_8c36e = true := by decide +kernel
set_option maxRecDepth 100000 in
theorem xk_J3_checkFromToIndex_8c36e : xm_chkM xSL xZL xQL xCI xCJ 22 xM_J3_checkFromToIndex_8c36e = true := by decide +kernel
theorem xo_J3_checkFromToIndex_8c36e : xm_okM xSL xZL xQL xX xM_J3_checkFromToIndex_8c36e := xm_okM_of xtabs (o := 22) rfl xk_J3_checkFromToIndex_8c36e xd_J3_checkFromToIndex_8c36e
set_option maxRecDepth 100000 in
theorem xd_J3_checkFromIndexSize_8c36e : xm_dec xM_J3_checkFromIndexSize_8c36e = true := by decide +kernel
set_option maxRecDepth 100000 in
theorem xk_J3_checkFromIndexSize_8c36e : xm_chkM xSL xZL xQL xCI xCJ 22 xM_J3_checkFromIndexSize_8c36e = true := by decide +kernel
theorem xo_J3_checkFromIndexSize_8c36e : xm_okM xSL xZL xQL xX xM_J3_checkFromIndexSize_8c36e := xm_okM_of xtabs (o := 22) rfl xk_J3_checkFromIndexSize_8c36e xd_J3_checkFromIndexSize_8c36e
set_option maxRecDepth 100000 in
theorem xd_L_load : xm_dec xM_L_load = true := by decide +kernel
set_option maxRecDepth 100000 in
theorem xk_L_load : xm_chkM xSL xZL xQL xCI xCJ 23 xM_L_load = true := by decide +kernel
theorem xo_L_load : xm_okM xSL xZL xQL xX xM_L_load := xm_okM_of xtabs (o := 23) rfl xk_L_load xd_L_load
set_option maxRecDepth 100000 in
theorem xd_L_floor : xm_dec xM_L_floor = true := by decide +kernel
set_option maxRecDepth 100000 in
theorem xk_L_floor : xm_chkM xSL xZL xQL xCI xCJ 23 xM_L_floor = true := by decide +kernel
theorem xo_L_floor : xm_okM xSL xZL xQL xX xM_L_floor := xm_okM_of xtabs (o := 23) rfl xk_L_floor xd_L_floor
set_option maxRecDepth 100000 in
theorem xd_L_bid : xm_dec xM_L_bid = true := by decide +kernel
set_option maxRecDepth 100000 in
theorem xk_L_bid : xm_chkM xSL xZL xQL xCI xCJ 23 xM_L_bid = true := by decide +kernel
theorem xo_L_bid : xm_okM xSL xZL xQL xX xM_L_bid := xm_okM_of xtabs (o := 23) rfl xk_L_bid xd_L_bid
set_option maxRecDepth 100000 in
theorem xd_L_effectiveBid : xm_dec xM_L_effectiveBid = true := by decide +kernel
set_option maxRecDepth 100000 in
theorem xk_L_effectiveBid : xm_chkM xSL xZL xQL xCI xCJ 23 xM_L_effectiveBid = true := by decide +kernel
theorem xo_L_effectiveBid : xm_okM xSL xZL xQL xX xM_L_effectiveBid := xm_okM_of xtabs (o := 23) rfl xk_L_effectiveBid xd_L_effectiveBid
set_option maxRecDepth 100000 in
theorem xd_L_multiplier : xm_dec xM_L_multiplier = true := by decide +kernel
set_option maxRecDepth 100000 in
theorem xk_L_multiplier : xm_chkM xSL xZL xQL xCI xCJ 23 xM_L_multiplier = true := by decide +kernel
theorem xo_L_multiplier : xm_okM xSL xZL xQL xX xM_L_multiplier := xm_okM_of xtabs (o := 23) rfl xk_L_multiplier xd_L_multiplier
set_option maxRecDepth 100000 in
theorem xd_L_budget : xm_dec xM_L_budget = true := by decide +kernel
set_option maxRecDepth 100000 in
theorem xk_L_budget : xm_chkM xSL xZL xQL xCI xCJ 23 xM_L_budget = true := by decide +kernel
theorem xo_L_budget : xm_okM xSL xZL xQL xX xM_L_budget := xm_okM_of xtabs (o := 23) rfl xk_L_budget xd_L_budget
set_option maxRecDepth 100000 in
theorem xd_L_spent : xm_dec xM_L_spent = true := by decide +kernel
set_option maxRecDepth 100000 in
theorem xk_L_spent : xm_chkM xSL xZL xQL xCI xCJ 23 xM_L_spent = true := by decide +kernel
theorem xo_L_spent : xm_okM xSL xZL xQL xX xM_L_spent := xm_okM_of xtabs (o := 23) rfl xk_L_spent xd_L_spent
set_option maxRecDepth 100000 in
theorem xd_L_plan : xm_dec xM_L_plan = true := by decide +kernel
set_option maxRecDepth 100000 in
theorem xk_L_plan : xm_chkM xSL xZL xQL xCI xCJ 23 xM_L_plan = true := by decide +kernel
theorem xo_L_plan : xm_okM xSL xZL xQL xX xM_L_plan := xm_okM_of xtabs (o := 23) rfl xk_L_plan xd_L_plan
set_option maxRecDepth 100000 in
theorem xd_L_mode : xm_dec xM_L_mode = true := by decide +kernel
set_option maxRecDepth 100000 in
theorem xk_L_mode : xm_chkM xSL xZL xQL xCI xCJ 23 xM_L_mode = true := by decide +kernel
theorem xo_L_mode : xm_okM xSL xZL xQL xX xM_L_mode := xm_okM_of xtabs (o := 23) rfl xk_L_mode xd_L_mode
set_option maxRecDepth 100000 in
theorem xd_L_refusal : xm_dec xM_L_refusal = true := by decide +kernel
set_option maxRecDepth 100000 in
theorem xk_L_refusal : xm_chkM xSL xZL xQL xCI xCJ 23 xM_L_refusal = true := by decide +kernel
theorem xo_L_refusal : xm_okM xSL xZL xQL xX xM_L_refusal := xm_okM_of xtabs (o := 23) rfl xk_L_refusal xd_L_refusal
set_option maxRecDepth 100000 in
theorem xd_L_ranked : xm_dec xM_L_ranked = true := by decide +kernel
set_option maxRecDepth 100000 in
theorem xk_L_ranked : xm_chkM xSL xZL xQL xCI xCJ 23 xM_L_ranked = true := by decide +kernel
theorem xo_L_ranked : xm_okM xSL xZL xQL xX xM_L_ranked := xm_okM_of xtabs (o := 23) rfl xk_L_ranked xd_L_ranked
set_option maxRecDepth 100000 in
theorem xd_L_winner : xm_dec xM_L_winner = true := by decide +kernel
set_option maxRecDepth 100000 in
theorem xk_L_winner : xm_chkM xSL xZL xQL xCI xCJ 23 xM_L_winner = true := by decide +kernel
theorem xo_L_winner : xm_okM xSL xZL xQL xX xM_L_winner := xm_okM_of xtabs (o := 23) rfl xk_L_winner xd_L_winner
set_option maxRecDepth 100000 in
theorem xd_L_price : xm_dec xM_L_price = true := by decide +kernel
set_option maxRecDepth 100000 in
theorem xk_L_price : xm_chkM xSL xZL xQL xCI xCJ 23 xM_L_price = true := by decide +kernel
theorem xo_L_price : xm_okM xSL xZL xQL xX xM_L_price := xm_okM_of xtabs (o := 23) rfl xk_L_price xd_L_price
set_option maxRecDepth 100000 in
theorem xd_L_leastBid : xm_dec xM_L_leastBid = true := by decide +kernel
set_option maxRecDepth 100000 in
theorem xk_L_leastBid : xm_chkM xSL xZL xQL xCI xCJ 23 xM_L_leastBid = true := by decide +kernel
theorem xo_L_leastBid : xm_okM xSL xZL xQL xX xM_L_leastBid := xm_okM_of xtabs (o := 23) rfl xk_L_leastBid xd_L_leastBid
set_option maxRecDepth 100000 in
theorem xd_L_bestFloor : xm_dec xM_L_bestFloor = true := by decide +kernel
set_option maxRecDepth 100000 in
theorem xk_L_bestFloor : xm_chkM xSL xZL xQL xCI xCJ 23 xM_L_bestFloor = true := by decide +kernel
theorem xo_L_bestFloor : xm_okM xSL xZL xQL xX xM_L_bestFloor := xm_okM_of xtabs (o := 23) rfl xk_L_bestFloor xd_L_bestFloor
set_option maxRecDepth 100000 in
theorem xd_L_revenueAfter : xm_dec xM_L_revenueAfter = true := by decide +kernel
set_option maxRecDepth 100000 in
theorem xk_L_revenueAfter : xm_chkM xSL xZL xQL xCI xCJ 23 xM_L_revenueAfter = true := by decide +kernel
theorem xo_L_revenueAfter : xm_okM xSL xZL xQL xX xM_L_revenueAfter := xm_okM_of xtabs (o := 23) rfl xk_L_revenueAfter xd_L_revenueAfter
set_option maxRecDepth 100000 in
theorem xd_L_multiplierAfter : xm_dec xM_L_multiplierAfter = true := by decide +kernel
set_option maxRecDepth 100000 in
theorem xk_L_multiplierAfter : xm_chkM xSL xZL xQL xCI xCJ 23 xM_L_multiplierAfter = true := by decide +kernel
theorem xo_L_multiplierAfter : xm_okM xSL xZL xQL xX xM_L_multiplierAfter := xm_okM_of xtabs (o := 23) rfl xk_L_multiplierAfter xd_L_multiplierAfter
set_option maxRecDepth 100000 in
theorem xd_L_bestMode : xm_dec xM_L_bestMode = true := by decide +kernel
set_option maxRecDepth 100000 in
theorem xk_L_bestMode : xm_chkM xSL xZL xQL xCI xCJ 23 xM_L_bestMode = true := by decide +kernel
theorem xo_L_bestMode : xm_okM xSL xZL xQL xX xM_L_bestMode := xm_okM_of xtabs (o := 23) rfl xk_L_bestMode xd_L_bestMode
