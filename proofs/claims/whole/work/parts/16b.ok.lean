/-! printed by wip/gen/gen15.py: the method tables are right -/
set_option maxRecDepth 100000 in
theorem xd_X10_pass : xm_dec xM_X10_pass = true := by decide +kernel
set_option maxRecDepth 100000 in
theorem xk_X10_pass : xm_chkM xSL xZL xQL xCI xCJ 10 xM_X10_pass = true := by decide +kernel
theorem xo_X10_pass : xm_okM xSL xZL xQL xX xM_X10_pass := xm_okM_of xtabs (o := 10) rfl xk_X10_pass xd_X10_pass
set_option maxRecDepth 100000 in
theorem xd_X10_convert : xm_dec xM_X10_convert = true := by decide +kernel
set_option maxRecDepth 100000 in
theorem xk_X10_convert : xm_chkM xSL xZL xQL xCI xCJ 10 xM_X10_convert = true := by decide +kernel
theorem xo_X10_convert : xm_okM xSL xZL xQL xX xM_X10_convert := xm_okM_of xtabs (o := 10) rfl xk_X10_convert xd_X10_convert
set_option maxRecDepth 100000 in
theorem xd_X10_attribute : xm_dec xM_X10_attribute = true := by decide +kernel
set_option maxRecDepth 100000 in
theorem xk_X10_attribute : xm_chkM xSL xZL xQL xCI xCJ 10 xM_X10_attribute = true := by decide +kernel
theorem xo_X10_attribute : xm_okM xSL xZL xQL xX xM_X10_attribute := xm_okM_of xtabs (o := 10) rfl xk_X10_attribute xd_X10_attribute
set_option maxRecDepth 100000 in
theorem xd_X10_pause : xm_dec xM_X10_pause = true := by decide +kernel
set_option maxRecDepth 100000 in
theorem xk_X10_pause : xm_chkM xSL xZL xQL xCI xCJ 10 xM_X10_pause = true := by decide +kernel
theorem xo_X10_pause : xm_okM xSL xZL xQL xX xM_X10_pause := xm_okM_of xtabs (o := 10) rfl xk_X10_pause xd_X10_pause
set_option maxRecDepth 100000 in
theorem xd_X10_resume : xm_dec xM_X10_resume = true := by decide +kernel
set_option maxRecDepth 100000 in
theorem xk_X10_resume : xm_chkM xSL xZL xQL xCI xCJ 10 xM_X10_resume = true := by decide +kernel
theorem xo_X10_resume : xm_okM xSL xZL xQL xX xM_X10_resume := xm_okM_of xtabs (o := 10) rfl xk_X10_resume xd_X10_resume
set_option maxRecDepth 100000 in
theorem xd_X10_setBid : xm_dec xM_X10_setBid = true := by decide +kernel
set_option maxRecDepth 100000 in
theorem xk_X10_setBid : xm_chkM xSL xZL xQL xCI xCJ 10 xM_X10_setBid = true := by decide +kernel
theorem xo_X10_setBid : xm_okM xSL xZL xQL xX xM_X10_setBid := xm_okM_of xtabs (o := 10) rfl xk_X10_setBid xd_X10_setBid
set_option maxRecDepth 100000 in
theorem xd_X10_setBudget : xm_dec xM_X10_setBudget = true := by decide +kernel
set_option maxRecDepth 100000 in
theorem xk_X10_setBudget : xm_chkM xSL xZL xQL xCI xCJ 10 xM_X10_setBudget = true := by decide +kernel
theorem xo_X10_setBudget : xm_okM xSL xZL xQL xX xM_X10_setBudget := xm_okM_of xtabs (o := 10) rfl xk_X10_setBudget xd_X10_setBudget
set_option maxRecDepth 100000 in
theorem xd_X10_setMode : xm_dec xM_X10_setMode = true := by decide +kernel
set_option maxRecDepth 100000 in
theorem xk_X10_setMode : xm_chkM xSL xZL xQL xCI xCJ 10 xM_X10_setMode = true := by decide +kernel
theorem xo_X10_setMode : xm_okM xSL xZL xQL xX xM_X10_setMode := xm_okM_of xtabs (o := 10) rfl xk_X10_setMode xd_X10_setMode
set_option maxRecDepth 100000 in
theorem xd_X10_setFloor : xm_dec xM_X10_setFloor = true := by decide +kernel
set_option maxRecDepth 100000 in
theorem xk_X10_setFloor : xm_chkM xSL xZL xQL xCI xCJ 10 xM_X10_setFloor = true := by decide +kernel
theorem xo_X10_setFloor : xm_okM xSL xZL xQL xX xM_X10_setFloor := xm_okM_of xtabs (o := 10) rfl xk_X10_setFloor xd_X10_setFloor
set_option maxRecDepth 100000 in
theorem xd_X10_undo : xm_dec xM_X10_undo = true := by decide +kernel
set_option maxRecDepth 100000 in
theorem xk_X10_undo : xm_chkM xSL xZL xQL xCI xCJ 10 xM_X10_undo = true := by decide +kernel
theorem xo_X10_undo : xm_okM xSL xZL xQL xX xM_X10_undo := xm_okM_of xtabs (o := 10) rfl xk_X10_undo xd_X10_undo
set_option maxRecDepth 100000 in
theorem xd_X10_impressions : xm_dec xM_X10_impressions = true := by decide +kernel
set_option maxRecDepth 100000 in
theorem xk_X10_impressions : xm_chkM xSL xZL xQL xCI xCJ 10 xM_X10_impressions = true := by decide +kernel
theorem xo_X10_impressions : xm_okM xSL xZL xQL xX xM_X10_impressions := xm_okM_of xtabs (o := 10) rfl xk_X10_impressions xd_X10_impressions
set_option maxRecDepth 100000 in
theorem xd_X10_impression : xm_dec xM_X10_impression = true := by decide +kernel
set_option maxRecDepth 100000 in
theorem xk_X10_impression : xm_chkM xSL xZL xQL xCI xCJ 10 xM_X10_impression = true := by decide +kernel
theorem xo_X10_impression : xm_okM xSL xZL xQL xX xM_X10_impression := xm_okM_of xtabs (o := 10) rfl xk_X10_impression xd_X10_impression
set_option maxRecDepth 100000 in
theorem xd_X10_revenue : xm_dec xM_X10_revenue = true := by decide +kernel
set_option maxRecDepth 100000 in
theorem xk_X10_revenue : xm_chkM xSL xZL xQL xCI xCJ 10 xM_X10_revenue = true := by decide +kernel
theorem xo_X10_revenue : xm_okM xSL xZL xQL xX xM_X10_revenue := xm_okM_of xtabs (o := 10) rfl xk_X10_revenue xd_X10_revenue
set_option maxRecDepth 100000 in
theorem xd_X10_reach : xm_dec xM_X10_reach = true := by decide +kernel
set_option maxRecDepth 100000 in
theorem xk_X10_reach : xm_chkM xSL xZL xQL xCI xCJ 10 xM_X10_reach = true := by decide +kernel
theorem xo_X10_reach : xm_okM xSL xZL xQL xX xM_X10_reach := xm_okM_of xtabs (o := 10) rfl xk_X10_reach xd_X10_reach
set_option maxRecDepth 100000 in
theorem xd_X10_frequency : xm_dec xM_X10_frequency = true := by decide +kernel
set_option maxRecDepth 100000 in
theorem xk_X10_frequency : xm_chkM xSL xZL xQL xCI xCJ 10 xM_X10_frequency = true := by decide +kernel
theorem xo_X10_frequency : xm_okM xSL xZL xQL xX xM_X10_frequency := xm_okM_of xtabs (o := 10) rfl xk_X10_frequency xd_X10_frequency
set_option maxRecDepth 100000 in
theorem xd_X10_recent : xm_dec xM_X10_recent = true := by decide +kernel
set_option maxRecDepth 100000 in
theorem xk_X10_recent : xm_chkM xSL xZL xQL xCI xCJ 10 xM_X10_recent = true := by decide +kernel
theorem xo_X10_recent : xm_okM xSL xZL xQL xX xM_X10_recent := xm_okM_of xtabs (o := 10) rfl xk_X10_recent xd_X10_recent
set_option maxRecDepth 100000 in
theorem xd_X10_topUser : xm_dec xM_X10_topUser = true := by decide +kernel
set_option maxRecDepth 100000 in
theorem xk_X10_topUser : xm_chkM xSL xZL xQL xCI xCJ 10 xM_X10_topUser = true := by decide +kernel
theorem xo_X10_topUser : xm_okM xSL xZL xQL xX xM_X10_topUser := xm_okM_of xtabs (o := 10) rfl xk_X10_topUser xd_X10_topUser
set_option maxRecDepth 100000 in
theorem xd_X10_meanPrice : xm_dec xM_X10_meanPrice = true := by decide +kernel
set_option maxRecDepth 100000 in
theorem xk_X10_meanPrice : xm_chkM xSL xZL xQL xCI xCJ 10 xM_X10_meanPrice = true := by decide +kernel
theorem xo_X10_meanPrice : xm_okM xSL xZL xQL xX xM_X10_meanPrice := xm_okM_of xtabs (o := 10) rfl xk_X10_meanPrice xd_X10_meanPrice
set_option maxRecDepth 100000 in
theorem xd_X10_conversions : xm_dec xM_X10_conversions = true := by decide +kernel
set_option maxRecDepth 100000 in
theorem xk_X10_conversions : xm_chkM xSL xZL xQL xCI xCJ 10 xM_X10_conversions = true := by decide +kernel
theorem xo_X10_conversions : xm_okM xSL xZL xQL xX xM_X10_conversions := xm_okM_of xtabs (o := 10) rfl xk_X10_conversions xd_X10_conversions
set_option maxRecDepth 100000 in
theorem xd_X10_credit : xm_dec xM_X10_credit = true := by decide +kernel
set_option maxRecDepth 100000 in
theorem xk_X10_credit : xm_chkM xSL xZL xQL xCI xCJ 10 xM_X10_credit = true := by decide +kernel
theorem xo_X10_credit : xm_okM xSL xZL xQL xX xM_X10_credit := xm_okM_of xtabs (o := 10) rfl xk_X10_credit xd_X10_credit
set_option maxRecDepth 100000 in
theorem xd_X10_unattributed : xm_dec xM_X10_unattributed = true := by decide +kernel
set_option maxRecDepth 100000 in
theorem xk_X10_unattributed : xm_chkM xSL xZL xQL xCI xCJ 10 xM_X10_unattributed = true := by decide +kernel
theorem xo_X10_unattributed : xm_okM xSL xZL xQL xX xM_X10_unattributed := xm_okM_of xtabs (o := 10) rfl xk_X10_unattributed xd_X10_unattributed
set_option maxRecDepth 100000 in
theorem xd_X10_write : xm_dec xM_X10_write = true := by decide +kernel
set_option maxRecDepth 100000 in
theorem xk_X10_write : xm_chkM xSL xZL xQL xCI xCJ 10 xM_X10_write = true := by decide +kernel
theorem xo_X10_write : xm_okM xSL xZL xQL xX xM_X10_write := xm_okM_of xtabs (o := 10) rfl xk_X10_write xd_X10_write
set_option maxRecDepth 100000 in
theorem xd_X10_written : xm_dec xM_X10_written = true := by decide +kernel
set_option maxRecDepth 100000 in
theorem xk_X10_written : xm_chkM xSL xZL xQL xCI xCJ 10 xM_X10_written = true := by decide +kernel
theorem xo_X10_written : xm_okM xSL xZL xQL xX xM_X10_written := xm_okM_of xtabs (o := 10) rfl xk_X10_written xd_X10_written
set_option maxRecDepth 100000 in
theorem xd_X10_modeWord : xm_dec xM_X10_modeWord = true := by decide +kernel
set_option maxRecDepth 100000 in
theorem xk_X10_modeWord : xm_chkM xSL xZL xQL xCI xCJ 10 xM_X10_modeWord = true := by decide +kernel
theorem xo_X10_modeWord : xm_okM xSL xZL xQL xX xM_X10_modeWord := xm_okM_of xtabs (o := 10) rfl xk_X10_modeWord xd_X10_modeWord
set_option maxRecDepth 100000 in
theorem xd_X10_quotient : xm_dec xM_X10_quotient = true := by decide +kernel
set_option maxRecDepth 100000 in
theorem xk_X10_quotient : xm_chkM xSL xZL xQL xCI xCJ 10 xM_X10_quotient = true := by decide +kernel
theorem xo_X10_quotient : xm_okM xSL xZL xQL xX xM_X10_quotient := xm_okM_of xtabs (o := 10) rfl xk_X10_quotient xd_X10_quotient
set_option maxRecDepth 100000 in
theorem xd_X10_requireCampaign : xm_dec xM_X10_requireCampaign = true := by decide +kernel
set_option maxRecDepth 100000 in
theorem xk_X10_requireCampaign : xm_chkM xSL xZL xQL xCI xCJ 10 xM_X10_requireCampaign = true := by decide +kernel
theorem xo_X10_requireCampaign : xm_okM xSL xZL xQL xX xM_X10_requireCampaign := xm_okM_of xtabs (o := 10) rfl xk_X10_requireCampaign xd_X10_requireCampaign
set_option maxRecDepth 100000 in
theorem xd_X10_requireTag : xm_dec xM_X10_requireTag = true := by decide +kernel
set_option maxRecDepth 100000 in
theorem xk_X10_requireTag : xm_chkM xSL xZL xQL xCI xCJ 10 xM_X10_requireTag = true := by decide +kernel
theorem xo_X10_requireTag : xm_okM xSL xZL xQL xX xM_X10_requireTag := xm_okM_of xtabs (o := 10) rfl xk_X10_requireTag xd_X10_requireTag
set_option maxRecDepth 100000 in
theorem xd_X10_requireSlot : xm_dec xM_X10_requireSlot = true := by decide +kernel
set_option maxRecDepth 100000 in
theorem xk_X10_requireSlot : xm_chkM xSL xZL xQL xCI xCJ 10 xM_X10_requireSlot = true := by decide +kernel
theorem xo_X10_requireSlot : xm_okM xSL xZL xQL xX xM_X10_requireSlot := xm_okM_of xtabs (o := 10) rfl xk_X10_requireSlot xd_X10_requireSlot
set_option maxRecDepth 100000 in
theorem xd_X10_requireSlots : xm_dec xM_X10_requireSlots = true := by decide +kernel
set_option maxRecDepth 100000 in
theorem xk_X10_requireSlots : xm_chkM xSL xZL xQL xCI xCJ 10 xM_X10_requireSlots = true := by decide +kernel
theorem xo_X10_requireSlots : xm_okM xSL xZL xQL xX xM_X10_requireSlots := xm_okM_of xtabs (o := 10) rfl xk_X10_requireSlots xd_X10_requireSlots
set_option maxRecDepth 100000 in
theorem xd_X10_requireUser : xm_dec xM_X10_requireUser = true := by decide +kernel
set_option maxRecDepth 100000 in
theorem xk_X10_requireUser : xm_chkM xSL xZL xQL xCI xCJ 10 xM_X10_requireUser = true := by decide +kernel
theorem xo_X10_requireUser : xm_okM xSL xZL xQL xX xM_X10_requireUser := xm_okM_of xtabs (o := 10) rfl xk_X10_requireUser xd_X10_requireUser
set_option maxRecDepth 100000 in
theorem xd_X10_requireRange : xm_dec xM_X10_requireRange = true := by decide +kernel
set_option maxRecDepth 100000 in
theorem xk_X10_requireRange : xm_chkM xSL xZL xQL xCI xCJ 10 xM_X10_requireRange = true := by decide +kernel
theorem xo_X10_requireRange : xm_okM xSL xZL xQL xX xM_X10_requireRange := xm_okM_of xtabs (o := 10) rfl xk_X10_requireRange xd_X10_requireRange
set_option maxRecDepth 100000 in
theorem xd_X11_init : xm_dec xM_X11_init = true := by decide +kernel
set_option maxRecDepth 100000 in
theorem xk_X11_init : xm_chkM xSL xZL xQL xCI xCJ 11 xM_X11_init = true := by decide +kernel
theorem xo_X11_init : xm_okM xSL xZL xQL xX xM_X11_init := xm_okM_of xtabs (o := 11) rfl xk_X11_init xd_X11_init
set_option maxRecDepth 100000 in
theorem xd_X11_thrown : xm_dec xM_X11_thrown = true := by decide +kernel
set_option maxRecDepth 100000 in
theorem xk_X11_thrown : xm_chkM xSL xZL xQL xCI xCJ 11 xM_X11_thrown = true := by decide +kernel
theorem xo_X11_thrown : xm_okM xSL xZL xQL xX xM_X11_thrown := xm_okM_of xtabs (o := 11) rfl xk_X11_thrown xd_X11_thrown
set_option maxRecDepth 100000 in
theorem xd_X11_between : xm_dec xM_X11_between = true := by decide +kernel
set_option maxRecDepth 100000 in
theorem xk_X11_between : xm_chkM xSL xZL xQL xCI xCJ 11 xM_X11_between = true := by decide +kernel
theorem xo_X11_between : xm_okM xSL xZL xQL xX xM_X11_between := xm_okM_of xtabs (o := 11) rfl xk_X11_between xd_X11_between
set_option maxRecDepth 100000 in
theorem xd_X11_good : xm_dec xM_X11_good = true := by decide +kernel
set_option maxRecDepth 100000 in
theorem xk_X11_good : xm_chkM xSL xZL xQL xCI xCJ 11 xM_X11_good = true := by decide +kernel
theorem xo_X11_good : xm_okM xSL xZL xQL xX xM_X11_good := xm_okM_of xtabs (o := 11) rfl xk_X11_good xd_X11_good
set_option maxRecDepth 100000 in
theorem xd_X11_good_ : xm_dec xM_X11_good_ = true := by decide +kernel
set_option maxRecDepth 100000 in
theorem xk_X11_good_ : xm_chkM xSL xZL xQL xCI xCJ 11 xM_X11_good_ = true := by decide +kernel
theorem xo_X11_good_ : xm_okM xSL xZL xQL xX xM_X11_good_ := xm_okM_of xtabs (o := 11) rfl xk_X11_good_ xd_X11_good_
set_option maxRecDepth 100000 in
theorem xd_X11_good__ : xm_dec xM_X11_good__ = true := by decide +kernel
set_option maxRecDepth 100000 in
theorem xk_X11_good__ : xm_chkM xSL xZL xQL xCI xCJ 11 xM_X11_good__ = true := by decide +kernel
theorem xo_X11_good__ : xm_okM xSL xZL xQL xX xM_X11_good__ := xm_okM_of xtabs (o := 11) rfl xk_X11_good__ xd_X11_good__
set_option maxRecDepth 100000 in
theorem xd_X11_copy : xm_dec xM_X11_copy = true := by decide +kernel
set_option maxRecDepth 100000 in
theorem xk_X11_copy : xm_chkM xSL xZL xQL xCI xCJ 11 xM_X11_copy = true := by decide +kernel
theorem xo_X11_copy : xm_okM xSL xZL xQL xX xM_X11_copy := xm_okM_of xtabs (o := 11) rfl xk_X11_copy xd_X11_copy
set_option maxRecDepth 100000 in
theorem xd_X11_remember : xm_dec xM_X11_remember = true := by decide +kernel
set_option maxRecDepth 100000 in
theorem xk_X11_remember : xm_chkM xSL xZL xQL xCI xCJ 11 xM_X11_remember = true := by decide +kernel
theorem xo_X11_remember : xm_okM xSL xZL xQL xX xM_X11_remember := xm_okM_of xtabs (o := 11) rfl xk_X11_remember xd_X11_remember
set_option maxRecDepth 100000 in
theorem xd_X11_undo : xm_dec xM_X11_undo = true := by decide +kernel
set_option maxRecDepth 100000 in
theorem xk_X11_undo : xm_chkM xSL xZL xQL xCI xCJ 11 xM_X11_undo = true := by decide +kernel
theorem xo_X11_undo : xm_okM xSL xZL xQL xX xM_X11_undo := xm_okM_of xtabs (o := 11) rfl xk_X11_undo xd_X11_undo
set_option maxRecDepth 100000 in
theorem xd_X11_append : xm_dec xM_X11_append = true := by decide +kernel
set_option maxRecDepth 100000 in
theorem xk_X11_append : xm_chkM xSL xZL xQL xCI xCJ 11 xM_X11_append = true := by decide +kernel
theorem xo_X11_append : xm_okM xSL xZL xQL xX xM_X11_append := xm_okM_of xtabs (o := 11) rfl xk_X11_append xd_X11_append
set_option maxRecDepth 100000 in
theorem xd_X11_feed : xm_dec xM_X11_feed = true := by decide +kernel
set_option maxRecDepth 100000 in
theorem xk_X11_feed : xm_chkM xSL xZL xQL xCI xCJ 11 xM_X11_feed = true := by decide +kernel
theorem xo_X11_feed : xm_okM xSL xZL xQL xX xM_X11_feed := xm_okM_of xtabs (o := 11) rfl xk_X11_feed xd_X11_feed
set_option maxRecDepth 100000 in
theorem xd_X11_byteAt : xm_dec xM_X11_byteAt = true := by decide +kernel
set_option maxRecDepth 100000 in
theorem xk_X11_byteAt : xm_chkM xSL xZL xQL xCI xCJ 11 xM_X11_byteAt = true := by decide +kernel
theorem xo_X11_byteAt : xm_okM xSL xZL xQL xX xM_X11_byteAt := xm_okM_of xtabs (o := 11) rfl xk_X11_byteAt xd_X11_byteAt
set_option maxRecDepth 100000 in
theorem xd_X11_isLetter : xm_dec xM_X11_isLetter = true := by decide +kernel
set_option maxRecDepth 100000 in
theorem xk_X11_isLetter : xm_chkM xSL xZL xQL xCI xCJ 11 xM_X11_isLetter = true := by decide +kernel
theorem xo_X11_isLetter : xm_okM xSL xZL xQL xX xM_X11_isLetter := xm_okM_of xtabs (o := 11) rfl xk_X11_isLetter xd_X11_isLetter
set_option maxRecDepth 100000 in
theorem xd_X11_isDigit : xm_dec xM_X11_isDigit = true := by decide +kernel
set_option maxRecDepth 100000 in
theorem xk_X11_isDigit : xm_chkM xSL xZL xQL xCI xCJ 11 xM_X11_isDigit = true := by decide +kernel
theorem xo_X11_isDigit : xm_okM xSL xZL xQL xX xM_X11_isDigit := xm_okM_of xtabs (o := 11) rfl xk_X11_isDigit xd_X11_isDigit
set_option maxRecDepth 100000 in
theorem xd_X11_advance : xm_dec xM_X11_advance = true := by decide +kernel
set_option maxRecDepth 100000 in
theorem xk_X11_advance : xm_chkM xSL xZL xQL xCI xCJ 11 xM_X11_advance = true := by decide +kernel
theorem xo_X11_advance : xm_okM xSL xZL xQL xX xM_X11_advance := xm_okM_of xtabs (o := 11) rfl xk_X11_advance xd_X11_advance
set_option maxRecDepth 100000 in
theorem xd_X11_isWord : xm_dec xM_X11_isWord = true := by decide +kernel
set_option maxRecDepth 100000 in
theorem xk_X11_isWord : xm_chkM xSL xZL xQL xCI xCJ 11 xM_X11_isWord = true := by decide +kernel
theorem xo_X11_isWord : xm_okM xSL xZL xQL xX xM_X11_isWord := xm_okM_of xtabs (o := 11) rfl xk_X11_isWord xd_X11_isWord
set_option maxRecDepth 100000 in
theorem xd_X11_fail : xm_dec xM_X11_fail = true := by decide +kernel
set_option maxRecDepth 100000 in
theorem xk_X11_fail : xm_chkM xSL xZL xQL xCI xCJ 11 xM_X11_fail = true := by decide +kernel
theorem xo_X11_fail : xm_okM xSL xZL xQL xX xM_X11_fail := xm_okM_of xtabs (o := 11) rfl xk_X11_fail xd_X11_fail
set_option maxRecDepth 100000 in
theorem xd_X11_number : xm_dec xM_X11_number = true := by decide +kernel
set_option maxRecDepth 100000 in
theorem xk_X11_number : xm_chkM xSL xZL xQL xCI xCJ 11 xM_X11_number = true := by decide +kernel
theorem xo_X11_number : xm_okM xSL xZL xQL xX xM_X11_number := xm_okM_of xtabs (o := 11) rfl xk_X11_number xd_X11_number
set_option maxRecDepth 100000 in
theorem xd_X11_numberTo : xm_dec xM_X11_numberTo = true := by decide +kernel
set_option maxRecDepth 100000 in
theorem xk_X11_numberTo : xm_chkM xSL xZL xQL xCI xCJ 11 xM_X11_numberTo = true := by decide +kernel
theorem xo_X11_numberTo : xm_okM xSL xZL xQL xX xM_X11_numberTo := xm_okM_of xtabs (o := 11) rfl xk_X11_numberTo xd_X11_numberTo
set_option maxRecDepth 100000 in
theorem xd_X11_closed : xm_dec xM_X11_closed = true := by decide +kernel
set_option maxRecDepth 100000 in
theorem xk_X11_closed : xm_chkM xSL xZL xQL xCI xCJ 11 xM_X11_closed = true := by decide +kernel
theorem xo_X11_closed : xm_okM xSL xZL xQL xX xM_X11_closed := xm_okM_of xtabs (o := 11) rfl xk_X11_closed xd_X11_closed
set_option maxRecDepth 100000 in
theorem xd_X11_resetTerms : xm_dec xM_X11_resetTerms = true := by decide +kernel
set_option maxRecDepth 100000 in
theorem xk_X11_resetTerms : xm_chkM xSL xZL xQL xCI xCJ 11 xM_X11_resetTerms = true := by decide +kernel
theorem xo_X11_resetTerms : xm_okM xSL xZL xQL xX xM_X11_resetTerms := xm_okM_of xtabs (o := 11) rfl xk_X11_resetTerms xd_X11_resetTerms
set_option maxRecDepth 100000 in
theorem xd_X11_takeTerms : xm_dec xM_X11_takeTerms = true := by decide +kernel
set_option maxRecDepth 100000 in
theorem xk_X11_takeTerms : xm_chkM xSL xZL xQL xCI xCJ 11 xM_X11_takeTerms = true := by decide +kernel
theorem xo_X11_takeTerms : xm_okM xSL xZL xQL xX xM_X11_takeTerms := xm_okM_of xtabs (o := 11) rfl xk_X11_takeTerms xd_X11_takeTerms
set_option maxRecDepth 100000 in
theorem xd_X11_find : xm_dec xM_X11_find = true := by decide +kernel
set_option maxRecDepth 100000 in
theorem xk_X11_find : xm_chkM xSL xZL xQL xCI xCJ 11 xM_X11_find = true := by decide +kernel
theorem xo_X11_find : xm_okM xSL xZL xQL xX xM_X11_find := xm_okM_of xtabs (o := 11) rfl xk_X11_find xd_X11_find
set_option maxRecDepth 100000 in
theorem xd_X11_ticks : xm_dec xM_X11_ticks = true := by decide +kernel
set_option maxRecDepth 100000 in
theorem xk_X11_ticks : xm_chkM xSL xZL xQL xCI xCJ 11 xM_X11_ticks = true := by decide +kernel
theorem xo_X11_ticks : xm_okM xSL xZL xQL xX xM_X11_ticks := xm_okM_of xtabs (o := 11) rfl xk_X11_ticks xd_X11_ticks
set_option maxRecDepth 100000 in
theorem xd_X11_slotsStatement : xm_dec xM_X11_slotsStatement = true := by decide +kernel
set_option maxRecDepth 100000 in
theorem xk_X11_slotsStatement : xm_chkM xSL xZL xQL xCI xCJ 11 xM_X11_slotsStatement = true := by decide +kernel
theorem xo_X11_slotsStatement : xm_okM xSL xZL xQL xX xM_X11_slotsStatement := xm_okM_of xtabs (o := 11) rfl xk_X11_slotsStatement xd_X11_slotsStatement
set_option maxRecDepth 100000 in
theorem xd_X11_newName : xm_dec xM_X11_newName = true := by decide +kernel
set_option maxRecDepth 100000 in
theorem xk_X11_newName : xm_chkM xSL xZL xQL xCI xCJ 11 xM_X11_newName = true := by decide +kernel
theorem xo_X11_newName : xm_okM xSL xZL xQL xX xM_X11_newName := xm_okM_of xtabs (o := 11) rfl xk_X11_newName xd_X11_newName
set_option maxRecDepth 100000 in
theorem xd_X11_tagStatement : xm_dec xM_X11_tagStatement = true := by decide +kernel
set_option maxRecDepth 100000 in
theorem xk_X11_tagStatement : xm_chkM xSL xZL xQL xCI xCJ 11 xM_X11_tagStatement = true := by decide +kernel
theorem xo_X11_tagStatement : xm_okM xSL xZL xQL xX xM_X11_tagStatement := xm_okM_of xtabs (o := 11) rfl xk_X11_tagStatement xd_X11_tagStatement
set_option maxRecDepth 100000 in
theorem xd_X11_target : xm_dec xM_X11_target = true := by decide +kernel
set_option maxRecDepth 100000 in
theorem xk_X11_target : xm_chkM xSL xZL xQL xCI xCJ 11 xM_X11_target = true := by decide +kernel
theorem xo_X11_target : xm_okM xSL xZL xQL xX xM_X11_target := xm_okM_of xtabs (o := 11) rfl xk_X11_target xd_X11_target
set_option maxRecDepth 100000 in
theorem xd_X11_campaignStatement : xm_dec xM_X11_campaignStatement = true := by decide +kernel
set_option maxRecDepth 100000 in
theorem xk_X11_campaignStatement : xm_chkM xSL xZL xQL xCI xCJ 11 xM_X11_campaignStatement = true := by decide +kernel
theorem xo_X11_campaignStatement : xm_okM xSL xZL xQL xX xM_X11_campaignStatement := xm_okM_of xtabs (o := 11) rfl xk_X11_campaignStatement xd_X11_campaignStatement
set_option maxRecDepth 100000 in
theorem xd_X11_campaignName : xm_dec xM_X11_campaignName = true := by decide +kernel
set_option maxRecDepth 100000 in
theorem xk_X11_campaignName : xm_chkM xSL xZL xQL xCI xCJ 11 xM_X11_campaignName = true := by decide +kernel
theorem xo_X11_campaignName : xm_okM xSL xZL xQL xX xM_X11_campaignName := xm_okM_of xtabs (o := 11) rfl xk_X11_campaignName xd_X11_campaignName
set_option maxRecDepth 100000 in
theorem xd_X11_paceStatement : xm_dec xM_X11_paceStatement = true := by decide +kernel
set_option maxRecDepth 100000 in
theorem xk_X11_paceStatement : xm_chkM xSL xZL xQL xCI xCJ 11 xM_X11_paceStatement = true := by decide +kernel
theorem xo_X11_paceStatement : xm_okM xSL xZL xQL xX xM_X11_paceStatement := xm_okM_of xtabs (o := 11) rfl xk_X11_paceStatement xd_X11_paceStatement
set_option maxRecDepth 100000 in
theorem xd_X11_apartStatement : xm_dec xM_X11_apartStatement = true := by decide +kernel
set_option maxRecDepth 100000 in
theorem xk_X11_apartStatement : xm_chkM xSL xZL xQL xCI xCJ 11 xM_X11_apartStatement = true := by decide +kernel
theorem xo_X11_apartStatement : xm_okM xSL xZL xQL xX xM_X11_apartStatement := xm_okM_of xtabs (o := 11) rfl xk_X11_apartStatement xd_X11_apartStatement
set_option maxRecDepth 100000 in
theorem xd_X11_statement : xm_dec xM_X11_statement = true := by decide +kernel
set_option maxRecDepth 100000 in
theorem xk_X11_statement : xm_chkM xSL xZL xQL xCI xCJ 11 xM_X11_statement = true := by decide +kernel
theorem xo_X11_statement : xm_okM xSL xZL xQL xX xM_X11_statement := xm_okM_of xtabs (o := 11) rfl xk_X11_statement xd_X11_statement
set_option maxRecDepth 100000 in
theorem xd_X11_load : xm_dec xM_X11_load = true := by decide +kernel
set_option maxRecDepth 100000 in
theorem xk_X11_load : xm_chkM xSL xZL xQL xCI xCJ 11 xM_X11_load = true := by decide +kernel
theorem xo_X11_load : xm_okM xSL xZL xQL xX xM_X11_load := xm_okM_of xtabs (o := 11) rfl xk_X11_load xd_X11_load
set_option maxRecDepth 100000 in
theorem xd_X11_errorKind : xm_dec xM_X11_errorKind = true := by decide +kernel
set_option maxRecDepth 100000 in
theorem xk_X11_errorKind : xm_chkM xSL xZL xQL xCI xCJ 11 xM_X11_errorKind = true := by decide +kernel
theorem xo_X11_errorKind : xm_okM xSL xZL xQL xX xM_X11_errorKind := xm_okM_of xtabs (o := 11) rfl xk_X11_errorKind xd_X11_errorKind
set_option maxRecDepth 100000 in
theorem xd_X11_errorPosition : xm_dec xM_X11_errorPosition = true := by decide +kernel
set_option maxRecDepth 100000 in
theorem xk_X11_errorPosition : xm_chkM xSL xZL xQL xCI xCJ 11 xM_X11_errorPosition = true := by decide +kernel
theorem xo_X11_errorPosition : xm_okM xSL xZL xQL xX xM_X11_errorPosition := xm_okM_of xtabs (o := 11) rfl xk_X11_errorPosition xd_X11_errorPosition
set_option maxRecDepth 100000 in
theorem xd_X11_isCampaign : xm_dec xM_X11_isCampaign = true := by decide +kernel
set_option maxRecDepth 100000 in
theorem xk_X11_isCampaign : xm_chkM xSL xZL xQL xCI xCJ 11 xM_X11_isCampaign = true := by decide +kernel
theorem xo_X11_isCampaign : xm_okM xSL xZL xQL xX xM_X11_isCampaign := xm_okM_of xtabs (o := 11) rfl xk_X11_isCampaign xd_X11_isCampaign
set_option maxRecDepth 100000 in
theorem xd_X11_isTag : xm_dec xM_X11_isTag = true := by decide +kernel
set_option maxRecDepth 100000 in
theorem xk_X11_isTag : xm_chkM xSL xZL xQL xCI xCJ 11 xM_X11_isTag = true := by decide +kernel
theorem xo_X11_isTag : xm_okM xSL xZL xQL xX xM_X11_isTag := xm_okM_of xtabs (o := 11) rfl xk_X11_isTag xd_X11_isTag
set_option maxRecDepth 100000 in
theorem xd_X11_isUser : xm_dec xM_X11_isUser = true := by decide +kernel
set_option maxRecDepth 100000 in
theorem xk_X11_isUser : xm_chkM xSL xZL xQL xCI xCJ 11 xM_X11_isUser = true := by decide +kernel
theorem xo_X11_isUser : xm_okM xSL xZL xQL xX xM_X11_isUser := xm_okM_of xtabs (o := 11) rfl xk_X11_isUser xd_X11_isUser
set_option maxRecDepth 100000 in
theorem xd_X11_areSlots : xm_dec xM_X11_areSlots = true := by decide +kernel
set_option maxRecDepth 100000 in
theorem xk_X11_areSlots : xm_chkM xSL xZL xQL xCI xCJ 11 xM_X11_areSlots = true := by decide +kernel
theorem xo_X11_areSlots : xm_okM xSL xZL xQL xX xM_X11_areSlots := xm_okM_of xtabs (o := 11) rfl xk_X11_areSlots xd_X11_areSlots
set_option maxRecDepth 100000 in
theorem xd_X11_of : xm_dec xM_X11_of = true := by decide +kernel
set_option maxRecDepth 100000 in
theorem xk_X11_of : xm_chkM xSL xZL xQL xCI xCJ 11 xM_X11_of = true := by decide +kernel
theorem xo_X11_of : xm_okM xSL xZL xQL xX xM_X11_of := xm_okM_of xtabs (o := 11) rfl xk_X11_of xd_X11_of
set_option maxRecDepth 100000 in
theorem xd_X11_set : xm_dec xM_X11_set = true := by decide +kernel
set_option maxRecDepth 100000 in
theorem xk_X11_set : xm_chkM xSL xZL xQL xCI xCJ 11 xM_X11_set = true := by decide +kernel
theorem xo_X11_set : xm_okM xSL xZL xQL xX xM_X11_set := xm_okM_of xtabs (o := 11) rfl xk_X11_set xd_X11_set
set_option maxRecDepth 100000 in
theorem xd_X11_effective : xm_dec xM_X11_effective = true := by decide +kernel
set_option maxRecDepth 100000 in
theorem xk_X11_effective : xm_chkM xSL xZL xQL xCI xCJ 11 xM_X11_effective = true := by decide +kernel
theorem xo_X11_effective : xm_okM xSL xZL xQL xX xM_X11_effective := xm_okM_of xtabs (o := 11) rfl xk_X11_effective xd_X11_effective
set_option maxRecDepth 100000 in
theorem xd_X11_planOf : xm_dec xM_X11_planOf = true := by decide +kernel
set_option maxRecDepth 100000 in
theorem xk_X11_planOf : xm_chkM xSL xZL xQL xCI xCJ 11 xM_X11_planOf = true := by decide +kernel
theorem xo_X11_planOf : xm_okM xSL xZL xQL xX xM_X11_planOf := xm_okM_of xtabs (o := 11) rfl xk_X11_planOf xd_X11_planOf
set_option maxRecDepth 100000 in
theorem xd_X11_leftOf : xm_dec xM_X11_leftOf = true := by decide +kernel
set_option maxRecDepth 100000 in
theorem xk_X11_leftOf : xm_chkM xSL xZL xQL xCI xCJ 11 xM_X11_leftOf = true := by decide +kernel
theorem xo_X11_leftOf : xm_okM xSL xZL xQL xX xM_X11_leftOf := xm_okM_of xtabs (o := 11) rfl xk_X11_leftOf xd_X11_leftOf
set_option maxRecDepth 100000 in
theorem xd_X11_campaigns : xm_dec xM_X11_campaigns = true := by decide +kernel
set_option maxRecDepth 100000 in
theorem xk_X11_campaigns : xm_chkM xSL xZL xQL xCI xCJ 11 xM_X11_campaigns = true := by decide +kernel
theorem xo_X11_campaigns : xm_okM xSL xZL xQL xX xM_X11_campaigns := xm_okM_of xtabs (o := 11) rfl xk_X11_campaigns xd_X11_campaigns
set_option maxRecDepth 100000 in
theorem xd_X11_tags : xm_dec xM_X11_tags = true := by decide +kernel
set_option maxRecDepth 100000 in
theorem xk_X11_tags : xm_chkM xSL xZL xQL xCI xCJ 11 xM_X11_tags = true := by decide +kernel
theorem xo_X11_tags : xm_okM xSL xZL xQL xX xM_X11_tags := xm_okM_of xtabs (o := 11) rfl xk_X11_tags xd_X11_tags
set_option maxRecDepth 100000 in
theorem xd_X11_slots : xm_dec xM_X11_slots = true := by decide +kernel
set_option maxRecDepth 100000 in
theorem xk_X11_slots : xm_chkM xSL xZL xQL xCI xCJ 11 xM_X11_slots = true := by decide +kernel
theorem xo_X11_slots : xm_okM xSL xZL xQL xX xM_X11_slots := xm_okM_of xtabs (o := 11) rfl xk_X11_slots xd_X11_slots
set_option maxRecDepth 100000 in
theorem xd_X11_floor : xm_dec xM_X11_floor = true := by decide +kernel
set_option maxRecDepth 100000 in
theorem xk_X11_floor : xm_chkM xSL xZL xQL xCI xCJ 11 xM_X11_floor = true := by decide +kernel
theorem xo_X11_floor : xm_okM xSL xZL xQL xX xM_X11_floor := xm_okM_of xtabs (o := 11) rfl xk_X11_floor xd_X11_floor
set_option maxRecDepth 100000 in
theorem xd_X11_tell : xm_dec xM_X11_tell = true := by decide +kernel
set_option maxRecDepth 100000 in
theorem xk_X11_tell : xm_chkM xSL xZL xQL xCI xCJ 11 xM_X11_tell = true := by decide +kernel
theorem xo_X11_tell : xm_okM xSL xZL xQL xX xM_X11_tell := xm_okM_of xtabs (o := 11) rfl xk_X11_tell xd_X11_tell
set_option maxRecDepth 100000 in
theorem xd_X11_bid : xm_dec xM_X11_bid = true := by decide +kernel
set_option maxRecDepth 100000 in
theorem xk_X11_bid : xm_chkM xSL xZL xQL xCI xCJ 11 xM_X11_bid = true := by decide +kernel
theorem xo_X11_bid : xm_okM xSL xZL xQL xX xM_X11_bid := xm_okM_of xtabs (o := 11) rfl xk_X11_bid xd_X11_bid
set_option maxRecDepth 100000 in
theorem xd_X11_effectiveBid : xm_dec xM_X11_effectiveBid = true := by decide +kernel
set_option maxRecDepth 100000 in
theorem xk_X11_effectiveBid : xm_chkM xSL xZL xQL xCI xCJ 11 xM_X11_effectiveBid = true := by decide +kernel
theorem xo_X11_effectiveBid : xm_okM xSL xZL xQL xX xM_X11_effectiveBid := xm_okM_of xtabs (o := 11) rfl xk_X11_effectiveBid xd_X11_effectiveBid
set_option maxRecDepth 100000 in
theorem xd_X11_multiplier : xm_dec xM_X11_multiplier = true := by decide +kernel
set_option maxRecDepth 100000 in
theorem xk_X11_multiplier : xm_chkM xSL xZL xQL xCI xCJ 11 xM_X11_multiplier = true := by decide +kernel
theorem xo_X11_multiplier : xm_okM xSL xZL xQL xX xM_X11_multiplier := xm_okM_of xtabs (o := 11) rfl xk_X11_multiplier xd_X11_multiplier
set_option maxRecDepth 100000 in
theorem xd_X11_budget : xm_dec xM_X11_budget = true := by decide +kernel
set_option maxRecDepth 100000 in
theorem xk_X11_budget : xm_chkM xSL xZL xQL xCI xCJ 11 xM_X11_budget = true := by decide +kernel
theorem xo_X11_budget : xm_okM xSL xZL xQL xX xM_X11_budget := xm_okM_of xtabs (o := 11) rfl xk_X11_budget xd_X11_budget
set_option maxRecDepth 100000 in
theorem xd_X11_spent : xm_dec xM_X11_spent = true := by decide +kernel
set_option maxRecDepth 100000 in
theorem xk_X11_spent : xm_chkM xSL xZL xQL xCI xCJ 11 xM_X11_spent = true := by decide +kernel
theorem xo_X11_spent : xm_okM xSL xZL xQL xX xM_X11_spent := xm_okM_of xtabs (o := 11) rfl xk_X11_spent xd_X11_spent
set_option maxRecDepth 100000 in
theorem xd_X11_plan : xm_dec xM_X11_plan = true := by decide +kernel
set_option maxRecDepth 100000 in
theorem xk_X11_plan : xm_chkM xSL xZL xQL xCI xCJ 11 xM_X11_plan = true := by decide +kernel
theorem xo_X11_plan : xm_okM xSL xZL xQL xX xM_X11_plan := xm_okM_of xtabs (o := 11) rfl xk_X11_plan xd_X11_plan
set_option maxRecDepth 100000 in
theorem xd_X11_mode : xm_dec xM_X11_mode = true := by decide +kernel
set_option maxRecDepth 100000 in
theorem xk_X11_mode : xm_chkM xSL xZL xQL xCI xCJ 11 xM_X11_mode = true := by decide +kernel
theorem xo_X11_mode : xm_okM xSL xZL xQL xX xM_X11_mode := xm_okM_of xtabs (o := 11) rfl xk_X11_mode xd_X11_mode
set_option maxRecDepth 100000 in
theorem xd_X11_tick : xm_dec xM_X11_tick = true := by decide +kernel
set_option maxRecDepth 100000 in
theorem xk_X11_tick : xm_chkM xSL xZL xQL xCI xCJ 11 xM_X11_tick = true := by decide +kernel
theorem xo_X11_tick : xm_okM xSL xZL xQL xX xM_X11_tick := xm_okM_of xtabs (o := 11) rfl xk_X11_tick xd_X11_tick
set_option maxRecDepth 100000 in
theorem xd_X11_impressionAt : xm_dec xM_X11_impressionAt = true := by decide +kernel
set_option maxRecDepth 100000 in
theorem xk_X11_impressionAt : xm_chkM xSL xZL xQL xCI xCJ 11 xM_X11_impressionAt = true := by decide +kernel
theorem xo_X11_impressionAt : xm_okM xSL xZL xQL xX xM_X11_impressionAt := xm_okM_of xtabs (o := 11) rfl xk_X11_impressionAt xd_X11_impressionAt
set_option maxRecDepth 100000 in
theorem xd_X11_recentOf : xm_dec xM_X11_recentOf = true := by decide +kernel
set_option maxRecDepth 100000 in
theorem xk_X11_recentOf : xm_chkM xSL xZL xQL xCI xCJ 11 xM_X11_recentOf = true := by decide +kernel
theorem xo_X11_recentOf : xm_okM xSL xZL xQL xX xM_X11_recentOf := xm_okM_of xtabs (o := 11) rfl xk_X11_recentOf xd_X11_recentOf
set_option maxRecDepth 100000 in
theorem xd_X11_refusalOf : xm_dec xM_X11_refusalOf = true := by decide +kernel
set_option maxRecDepth 100000 in
theorem xk_X11_refusalOf : xm_chkM xSL xZL xQL xCI xCJ 11 xM_X11_refusalOf = true := by decide +kernel
theorem xo_X11_refusalOf : xm_okM xSL xZL xQL xX xM_X11_refusalOf := xm_okM_of xtabs (o := 11) rfl xk_X11_refusalOf xd_X11_refusalOf
set_option maxRecDepth 100000 in
theorem xd_X11_rankOne : xm_dec xM_X11_rankOne = true := by decide +kernel
set_option maxRecDepth 100000 in
theorem xk_X11_rankOne : xm_chkM xSL xZL xQL xCI xCJ 11 xM_X11_rankOne = true := by decide +kernel
theorem xo_X11_rankOne : xm_okM xSL xZL xQL xX xM_X11_rankOne := xm_okM_of xtabs (o := 11) rfl xk_X11_rankOne xd_X11_rankOne
set_option maxRecDepth 100000 in
theorem xd_X11_isApart : xm_dec xM_X11_isApart = true := by decide +kernel
set_option maxRecDepth 100000 in
theorem xk_X11_isApart : xm_chkM xSL xZL xQL xCI xCJ 11 xM_X11_isApart = true := by decide +kernel
theorem xo_X11_isApart : xm_okM xSL xZL xQL xX xM_X11_isApart := xm_okM_of xtabs (o := 11) rfl xk_X11_isApart xd_X11_isApart
set_option maxRecDepth 100000 in
theorem xd_X11_priceOf : xm_dec xM_X11_priceOf = true := by decide +kernel
set_option maxRecDepth 100000 in
theorem xk_X11_priceOf : xm_chkM xSL xZL xQL xCI xCJ 11 xM_X11_priceOf = true := by decide +kernel
theorem xo_X11_priceOf : xm_okM xSL xZL xQL xX xM_X11_priceOf := xm_okM_of xtabs (o := 11) rfl xk_X11_priceOf xd_X11_priceOf
set_option maxRecDepth 100000 in
theorem xd_X11_auction : xm_dec xM_X11_auction = true := by decide +kernel
set_option maxRecDepth 100000 in
theorem xk_X11_auction : xm_chkM xSL xZL xQL xCI xCJ 11 xM_X11_auction = true := by decide +kernel
theorem xo_X11_auction : xm_okM xSL xZL xQL xX xM_X11_auction := xm_okM_of xtabs (o := 11) rfl xk_X11_auction xd_X11_auction
set_option maxRecDepth 100000 in
theorem xd_X11_takeOver : xm_dec xM_X11_takeOver = true := by decide +kernel
set_option maxRecDepth 100000 in
theorem xk_X11_takeOver : xm_chkM xSL xZL xQL xCI xCJ 11 xM_X11_takeOver = true := by decide +kernel
theorem xo_X11_takeOver : xm_okM xSL xZL xQL xX xM_X11_takeOver := xm_okM_of xtabs (o := 11) rfl xk_X11_takeOver xd_X11_takeOver
set_option maxRecDepth 100000 in
theorem xd_X11_control : xm_dec xM_X11_control = true := by decide +kernel
set_option maxRecDepth 100000 in
theorem xk_X11_control : xm_chkM xSL xZL xQL xCI xCJ 11 xM_X11_control = true := by decide +kernel
theorem xo_X11_control : xm_okM xSL xZL xQL xX xM_X11_control := xm_okM_of xtabs (o := 11) rfl xk_X11_control xd_X11_control
set_option maxRecDepth 100000 in
theorem xd_X11_passTick : xm_dec xM_X11_passTick = true := by decide +kernel
set_option maxRecDepth 100000 in
theorem xk_X11_passTick : xm_chkM xSL xZL xQL xCI xCJ 11 xM_X11_passTick = true := by decide +kernel
theorem xo_X11_passTick : xm_okM xSL xZL xQL xX xM_X11_passTick := xm_okM_of xtabs (o := 11) rfl xk_X11_passTick xd_X11_passTick
set_option maxRecDepth 100000 in
theorem xd_X11_isRequest : xm_dec xM_X11_isRequest = true := by decide +kernel
set_option maxRecDepth 100000 in
theorem xk_X11_isRequest : xm_chkM xSL xZL xQL xCI xCJ 11 xM_X11_isRequest = true := by decide +kernel
theorem xo_X11_isRequest : xm_okM xSL xZL xQL xX xM_X11_isRequest := xm_okM_of xtabs (o := 11) rfl xk_X11_isRequest xd_X11_isRequest
set_option maxRecDepth 100000 in
theorem xd_X11_refusal : xm_dec xM_X11_refusal = true := by decide +kernel
set_option maxRecDepth 100000 in
theorem xk_X11_refusal : xm_chkM xSL xZL xQL xCI xCJ 11 xM_X11_refusal = true := by decide +kernel
theorem xo_X11_refusal : xm_okM xSL xZL xQL xX xM_X11_refusal := xm_okM_of xtabs (o := 11) rfl xk_X11_refusal xd_X11_refusal
set_option maxRecDepth 100000 in
theorem xd_X11_ranked : xm_dec xM_X11_ranked = true := by decide +kernel
set_option maxRecDepth 100000 in
theorem xk_X11_ranked : xm_chkM xSL xZL xQL xCI xCJ 11 xM_X11_ranked = true := by decide +kernel
theorem xo_X11_ranked : xm_okM xSL xZL xQL xX xM_X11_ranked := xm_okM_of xtabs (o := 11) rfl xk_X11_ranked xd_X11_ranked
set_option maxRecDepth 100000 in
theorem xd_X11_winner : xm_dec xM_X11_winner = true := by decide +kernel
set_option maxRecDepth 100000 in
theorem xk_X11_winner : xm_chkM xSL xZL xQL xCI xCJ 11 xM_X11_winner = true := by decide +kernel
theorem xo_X11_winner : xm_okM xSL xZL xQL xX xM_X11_winner := xm_okM_of xtabs (o := 11) rfl xk_X11_winner xd_X11_winner
set_option maxRecDepth 100000 in
theorem xd_X11_price : xm_dec xM_X11_price = true := by decide +kernel
set_option maxRecDepth 100000 in
theorem xk_X11_price : xm_chkM xSL xZL xQL xCI xCJ 11 xM_X11_price = true := by decide +kernel
theorem xo_X11_price : xm_okM xSL xZL xQL xX xM_X11_price := xm_okM_of xtabs (o := 11) rfl xk_X11_price xd_X11_price
set_option maxRecDepth 100000 in
theorem xd_X11_isWinner : xm_dec xM_X11_isWinner = true := by decide +kernel
set_option maxRecDepth 100000 in
theorem xk_X11_isWinner : xm_chkM xSL xZL xQL xCI xCJ 11 xM_X11_isWinner = true := by decide +kernel
theorem xo_X11_isWinner : xm_okM xSL xZL xQL xX xM_X11_isWinner := xm_okM_of xtabs (o := 11) rfl xk_X11_isWinner xd_X11_isWinner
set_option maxRecDepth 100000 in
theorem xd_X11_leastBid : xm_dec xM_X11_leastBid = true := by decide +kernel
set_option maxRecDepth 100000 in
theorem xk_X11_leastBid : xm_chkM xSL xZL xQL xCI xCJ 11 xM_X11_leastBid = true := by decide +kernel
theorem xo_X11_leastBid : xm_okM xSL xZL xQL xX xM_X11_leastBid := xm_okM_of xtabs (o := 11) rfl xk_X11_leastBid xd_X11_leastBid
