/-! printed by wip/gen/gen15.py: the method tables are right -/
set_option maxRecDepth 100000 in
theorem xd_L_request : xm_dec xM_L_request = true := by decide +kernel
set_option maxRecDepth 100000 in
theorem xk_L_request : xm_chkM xSL xZL xQL xCI xCJ 23 xM_L_request = true := by decide +kernel
theorem xo_L_request : xm_okM xSL xZL xQL xX xM_L_request := xm_okM_of xtabs (o := 23) rfl xk_L_request xd_L_request
set_option maxRecDepth 100000 in
theorem xd_L_pass : xm_dec xM_L_pass = true := by decide +kernel
set_option maxRecDepth 100000 in
theorem xk_L_pass : xm_chkM xSL xZL xQL xCI xCJ 23 xM_L_pass = true := by decide +kernel
theorem xo_L_pass : xm_okM xSL xZL xQL xX xM_L_pass := xm_okM_of xtabs (o := 23) rfl xk_L_pass xd_L_pass
set_option maxRecDepth 100000 in
theorem xd_L_convert : xm_dec xM_L_convert = true := by decide +kernel
set_option maxRecDepth 100000 in
theorem xk_L_convert : xm_chkM xSL xZL xQL xCI xCJ 23 xM_L_convert = true := by decide +kernel
theorem xo_L_convert : xm_okM xSL xZL xQL xX xM_L_convert := xm_okM_of xtabs (o := 23) rfl xk_L_convert xd_L_convert
set_option maxRecDepth 100000 in
theorem xd_L_pause : xm_dec xM_L_pause = true := by decide +kernel
set_option maxRecDepth 100000 in
theorem xk_L_pause : xm_chkM xSL xZL xQL xCI xCJ 23 xM_L_pause = true := by decide +kernel
theorem xo_L_pause : xm_okM xSL xZL xQL xX xM_L_pause := xm_okM_of xtabs (o := 23) rfl xk_L_pause xd_L_pause
set_option maxRecDepth 100000 in
theorem xd_L_resume : xm_dec xM_L_resume = true := by decide +kernel
set_option maxRecDepth 100000 in
theorem xk_L_resume : xm_chkM xSL xZL xQL xCI xCJ 23 xM_L_resume = true := by decide +kernel
theorem xo_L_resume : xm_okM xSL xZL xQL xX xM_L_resume := xm_okM_of xtabs (o := 23) rfl xk_L_resume xd_L_resume
set_option maxRecDepth 100000 in
theorem xd_L_setBid : xm_dec xM_L_setBid = true := by decide +kernel
set_option maxRecDepth 100000 in
theorem xk_L_setBid : xm_chkM xSL xZL xQL xCI xCJ 23 xM_L_setBid = true := by decide +kernel
theorem xo_L_setBid : xm_okM xSL xZL xQL xX xM_L_setBid := xm_okM_of xtabs (o := 23) rfl xk_L_setBid xd_L_setBid
set_option maxRecDepth 100000 in
theorem xd_L_setBudget : xm_dec xM_L_setBudget = true := by decide +kernel
set_option maxRecDepth 100000 in
theorem xk_L_setBudget : xm_chkM xSL xZL xQL xCI xCJ 23 xM_L_setBudget = true := by decide +kernel
theorem xo_L_setBudget : xm_okM xSL xZL xQL xX xM_L_setBudget := xm_okM_of xtabs (o := 23) rfl xk_L_setBudget xd_L_setBudget
set_option maxRecDepth 100000 in
theorem xd_L_setMode : xm_dec xM_L_setMode = true := by decide +kernel
set_option maxRecDepth 100000 in
theorem xk_L_setMode : xm_chkM xSL xZL xQL xCI xCJ 23 xM_L_setMode = true := by decide +kernel
theorem xo_L_setMode : xm_okM xSL xZL xQL xX xM_L_setMode := xm_okM_of xtabs (o := 23) rfl xk_L_setMode xd_L_setMode
set_option maxRecDepth 100000 in
theorem xd_L_setFloor : xm_dec xM_L_setFloor = true := by decide +kernel
set_option maxRecDepth 100000 in
theorem xk_L_setFloor : xm_chkM xSL xZL xQL xCI xCJ 23 xM_L_setFloor = true := by decide +kernel
theorem xo_L_setFloor : xm_okM xSL xZL xQL xX xM_L_setFloor := xm_okM_of xtabs (o := 23) rfl xk_L_setFloor xd_L_setFloor
set_option maxRecDepth 100000 in
theorem xd_L_impression : xm_dec xM_L_impression = true := by decide +kernel
set_option maxRecDepth 100000 in
theorem xk_L_impression : xm_chkM xSL xZL xQL xCI xCJ 23 xM_L_impression = true := by decide +kernel
theorem xo_L_impression : xm_okM xSL xZL xQL xX xM_L_impression := xm_okM_of xtabs (o := 23) rfl xk_L_impression xd_L_impression
set_option maxRecDepth 100000 in
theorem xd_L_reach : xm_dec xM_L_reach = true := by decide +kernel
set_option maxRecDepth 100000 in
theorem xk_L_reach : xm_chkM xSL xZL xQL xCI xCJ 23 xM_L_reach = true := by decide +kernel
theorem xo_L_reach : xm_okM xSL xZL xQL xX xM_L_reach := xm_okM_of xtabs (o := 23) rfl xk_L_reach xd_L_reach
set_option maxRecDepth 100000 in
theorem xd_L_frequency : xm_dec xM_L_frequency = true := by decide +kernel
set_option maxRecDepth 100000 in
theorem xk_L_frequency : xm_chkM xSL xZL xQL xCI xCJ 23 xM_L_frequency = true := by decide +kernel
theorem xo_L_frequency : xm_okM xSL xZL xQL xX xM_L_frequency := xm_okM_of xtabs (o := 23) rfl xk_L_frequency xd_L_frequency
set_option maxRecDepth 100000 in
theorem xd_L_recent : xm_dec xM_L_recent = true := by decide +kernel
set_option maxRecDepth 100000 in
theorem xk_L_recent : xm_chkM xSL xZL xQL xCI xCJ 23 xM_L_recent = true := by decide +kernel
theorem xo_L_recent : xm_okM xSL xZL xQL xX xM_L_recent := xm_okM_of xtabs (o := 23) rfl xk_L_recent xd_L_recent
set_option maxRecDepth 100000 in
theorem xd_L_meanPrice : xm_dec xM_L_meanPrice = true := by decide +kernel
set_option maxRecDepth 100000 in
theorem xk_L_meanPrice : xm_chkM xSL xZL xQL xCI xCJ 23 xM_L_meanPrice = true := by decide +kernel
theorem xo_L_meanPrice : xm_okM xSL xZL xQL xX xM_L_meanPrice := xm_okM_of xtabs (o := 23) rfl xk_L_meanPrice xd_L_meanPrice
set_option maxRecDepth 100000 in
theorem xd_L_credit : xm_dec xM_L_credit = true := by decide +kernel
set_option maxRecDepth 100000 in
theorem xk_L_credit : xm_chkM xSL xZL xQL xCI xCJ 23 xM_L_credit = true := by decide +kernel
theorem xo_L_credit : xm_okM xSL xZL xQL xX xM_L_credit := xm_okM_of xtabs (o := 23) rfl xk_L_credit xd_L_credit
set_option maxRecDepth 100000 in
theorem xd_L_write : xm_dec xM_L_write = true := by decide +kernel
set_option maxRecDepth 100000 in
theorem xk_L_write : xm_chkM xSL xZL xQL xCI xCJ 23 xM_L_write = true := by decide +kernel
theorem xo_L_write : xm_okM xSL xZL xQL xX xM_L_write := xm_okM_of xtabs (o := 23) rfl xk_L_write xd_L_write
set_option maxRecDepth 100000 in
theorem xd_L_written : xm_dec xM_L_written = true := by decide +kernel
set_option maxRecDepth 100000 in
theorem xk_L_written : xm_chkM xSL xZL xQL xCI xCJ 23 xM_L_written = true := by decide +kernel
theorem xo_L_written : xm_okM xSL xZL xQL xX xM_L_written := xm_okM_of xtabs (o := 23) rfl xk_L_written xd_L_written
set_option maxRecDepth 100000 in
theorem xd_L_law : xm_dec xM_L_law = true := by decide +kernel
set_option maxRecDepth 100000 in
theorem xk_L_law : xm_chkM xSL xZL xQL xCI xCJ 23 xM_L_law = true := by decide +kernel
theorem xo_L_law : xm_okM xSL xZL xQL xX xM_L_law := xm_okM_of xtabs (o := 23) rfl xk_L_law xd_L_law
