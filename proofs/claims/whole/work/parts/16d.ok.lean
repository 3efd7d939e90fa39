/-! printed by wip/gen/gen15.py: the method tables are right -/
set_option maxRecDepth 100000 in
theorem xd_L_request : xm_dec xM_L_request = true := by decide +kernel
set_option maxRecDepth 100000 in
theorem xk_L_request : xm_chkM xSL xZL xQL xCI xCJ 23 xM_L_request = true := by decide +kernel
theorem xo_L_request : xm_okM xSL xZL xQL xX xM_L_request := xm_okM_of xtabs (o := 23) rfl xk_L_request xd_L_request
set_option maxRecDepth 100000 in
theorem xd_L_pass : xm_dec xM_L_pass = true := by decide +kernel
set_option maxRecDepth 100000 in
theorem xk_L_pass : xm_chkM xSL xZL xQL xCI xCJ 23 xM_L_pass = true := by decide +kernel
theorem xo_L_pass : xm_okM xSL xZL xQL xX xM_L_pass := xm_okM_of xtabs (o := 23) rfl xk_L_pass xd_L_pass
set_option maxRecDepth 100000 in
theorem xd_L_convert : xm_dec xM_L_convert = true := by decide +kernel
set_option maxRecDepth 100000 in
theorem xk_L_convert : xm_chkM xSL xZL xQL xCI xCJ 23 xM_L_convert = true := by decide +kernel
theorem xo_L_convert : xm_okM xSL xZL xQL xX xM_L_convert := xm_okM_of xtabs (o := 23) rfl xk_L_convert xd_L_convert
set_option maxRecDepth 100000 in
theorem xd_L_pause : xm_dec xM_L_pause = true := by decide +kernel
set_option maxRecDepth 100000 in
theorem xk_L_pause : xm_chkM xSL xZL xQL xCI xCJ 23 xM_L_pause = true := by decide +kernel
theorem xo_L_pause : xm_okM xSL xZL xQL xX xM_L_pause := xm_okM_of xtabs (o := 23) rfl xk_L_pause xd_L_pause
set_option maxRecDepth 100000 in
theorem xd_L_resume : xm_dec xM_L_resume = true := by decide +kernel
set_option maxRecDepth 100000 in
theorem xk_L_resume : xm_chkM xSL xZL xQL xCI xCJ 23 xM_L_resume = true := by decide +kernel
theorem xo_L_resume : xm_okM xSL xZL xQL xX xM_L_resume := xm_okM_of xtabs (o := 23) rfl xk_L_resume xd_L_resume
set_option maxRecDepth 100000 in
theorem xd_L_setBid : xm_dec xM_L_setBid = true := by decide +kernel
set_option maxRecDepth 100000 in
theorem xk_L_setBid : xm_chkM xSL xZL xQL xCI xCJ 23 xM_L_setBid = true := by decide +kernel
theorem xo_L_setBid : xm_okM xSL xZL xQL xX xM_L_setBid := xm_okM_of xtabs (o := 23) rfl xk_L_setBid xd_L_setBid
set_option maxRecDepth 100000 in
theorem xd_L_setBudget : xm_dec xM_L_setBudget = true := by decide +kernel
set_option maxRecDepth 100000 in
theorem xk_L_setBudget : xm_chkM xSL xZL xQL xCI xCJ 23 xM_L_setBudget = true := by decide +kernel
theorem xo_L_setBudget : xm_okM xSL xZL xQL xX xM_L_setBudget := xm_okM_of xtabs (o := 23) rfl xk_L_setBudget xd_L_setBudget
set_option maxRecDepth 100000 in
theorem xd_L_setMode : xm_dec xM_L_setMode = true := by decide +kernel
set_option maxRecDepth 100000 in
theorem xk_L_setMode : xm_chkM xSL xZL xQL xCI xCJ 23 xM_L_setMode = true := by decide +kernel
theorem xo_L_setMode : xm_okM xSL xZL xQL xX xM_L_setMode := xm_okM_of xtabs (o := 23) rfl xk_L_setMode xd_L_setMode
set_option maxRecDepth 100000 in
theorem xd_L_setFloor : xm_dec xM_L_setFloor = true := by decide +kernel
set_option maxRecDepth 100000 in
theorem xk_L_setFloor : xm_chkM xSL xZL xQL xCI xCJ 23 xM_L_setFloor = true := by decide +kernel
theorem xo_L_setFloor : xm_okM xSL xZL xQL xX xM_L_setFloor := xm_okM_of xtabs (o := 23) rfl xk_L_setFloor xd_L_setFloor
set_option maxRecDepth 100000 in
theorem xd_L_impression : xm_dec xM_L_impression = true := by decide +kernel
set_option maxRecDepth 100000 in
theorem xk_L_impression : xm_chkM xSL xZL xQL xCI xCJ 23 xM_L_impression = true := by decide +kernel
theorem xo_L_impression : xm_okM xSL xZL xQL xX xM_L_impression := xm_okM_of xtabs (o := 23) rfl xk_L_impression xd_L_impression
set_option maxRecDepth 100000 in
theorem xd_L_reach : xm_dec xM_L_reach = true := by decide +kernel
set_option maxRecDepth 100000 in
theorem xk_L_reach : xm_chkM xSL xZL xQL xCI xCJ 23 xM_L_reach = true := by decide +kernel
theorem xo_L_reach : xm_okM xSL xZL xQL xX xM_L_reach := xm_okM_of xtabs (o := 23) rfl xk_L_reach xd_L_reach
set_option maxRecDepth 100000 in
theorem xd_L_frequency : xm_dec xM_L_frequency = true := by decide +kernel
set_option maxRecDepth 100000 in
theorem xk_L_frequency : xm_chkM xSL xZL xQL xCI xCJ 23 xM_L_frequency = true := by decide +kernel
theorem xo_L_frequency : xm_okM xSL xZL xQL xX xM_L_frequency := xm_okM_of xtabs (o := 23) rfl xk_L_frequency xd_L_frequency
set_option maxRecDepth 100000 in
theorem xd_L_recent : xm_dec xM_L_recent = true := by decide +kernel
set_option maxRecDepth 100000 in
theorem xk_L_recent : xm_chkM xSL xZL xQL xCI xCJ 23 xM_L_recent = true := by decide +kernel
theorem xo_L_recent : xm_okM xSL xZL xQL xX xM_L_recent := xm_okM_of xtabs (o := 23) rfl xk_L_recent xd_L_recent
set_option maxRecDepth 100000 in
theorem xd_L_meanPrice : xm_dec xM_L_meanPrice = true := by decide +kernel
set_option maxRecDepth 100000 in
theorem xk_L_meanPrice : xm_chkM xSL xZL xQL xCI xCJ 23 xM_L_meanPrice = true := by decide +kernel
theorem xo_L_meanPrice : xm_okM xSL xZL xQL xX xM_L_meanPrice := xm_okM_of xtabs (o := 23) rfl xk_L_meanPrice xd_L_meanPrice
set_option maxRecDepth 100000 in
theorem xd_L_credit : xm_dec xM_L_credit = true := by decide +kernel
set_option maxRecDepth 100000 in
theorem xk_L_credit : xm_chkM xSL xZL xQL xCI xCJ 23 xM_L_credit = true := by decide +kernel
theorem xo_L_credit : xm_okM xSL xZL xQL xX xM_L_credit := xm_okM_of xtabs (o := 23) rfl xk_L_credit xd_L_credit
set_option maxRecDepth 100000 in
theorem xd_L_write : xm_dec xM_L_write = true := by decide +kernel
set_option maxRecDepth 100000 in
theorem xk_L_write : xm_chkM xSL xZL xQL xCI xCJ 23 xM_L_write = true := by decide +kernel
theorem xo_L_write : xm_okM xSL xZL xQL xX xM_L_write := xm_okM_of xtabs (o := 23) rfl xk_L_write xd_L_write
set_option maxRecDepth 100000 in
theorem xd_L_written : xm_dec xM_L_written = true := by decide +kernel
set_option maxRecDepth 100000 in
theorem xk_L_written : xm_chkM xSL xZL xQL xCI xCJ 23 xM_L_written = true := by decide +kernel
theorem xo_L_written : xm_okM xSL xZL xQL xX xM_L_written := xm_okM_of xtabs (o := 23) rfl xk_L_written xd_L_written
set_option maxRecDepth 100000 in
theorem xdr_0 : xr_L_law_0.all (fun q => decide (decode code q.1 = .ok (q.2.1, xm_lenE q.2))) = true := by decide +kernel
set_option maxRecDepth 100000 in
theorem xdr_1 : xr_L_law_1.all (fun q => decide (decode code q.1 = .ok (q.2.1, xm_lenE q.2))) = true := by decide +kernel
set_option maxRecDepth 100000 in
theorem xdr_2 : xr_L_law_2.all (fun q => decide (decode code q.1 = .ok (q.2.1, xm_lenE q.2))) = true := by decide +kernel
set_option maxRecDepth 100000 in
theorem xdr_3 : xr_L_law_3.all (fun q => decide (decode code q.1 = .ok (q.2.1, xm_lenE q.2))) = true := by decide +kernel
set_option maxRecDepth 100000 in
theorem xdr_4 : xr_L_law_4.all (fun q => decide (decode code q.1 = .ok (q.2.1, xm_lenE q.2))) = true := by decide +kernel
set_option maxRecDepth 100000 in
theorem xdr_5 : xr_L_law_5.all (fun q => decide (decode code q.1 = .ok (q.2.1, xm_lenE q.2))) = true := by decide +kernel
set_option maxRecDepth 100000 in
theorem xdr_6 : xr_L_law_6.all (fun q => decide (decode code q.1 = .ok (q.2.1, xm_lenE q.2))) = true := by decide +kernel
set_option maxRecDepth 100000 in
theorem xdr_7 : xr_L_law_7.all (fun q => decide (decode code q.1 = .ok (q.2.1, xm_lenE q.2))) = true := by decide +kernel
set_option maxRecDepth 100000 in
theorem xdr_8 : xr_L_law_8.all (fun q => decide (decode code q.1 = .ok (q.2.1, xm_lenE q.2))) = true := by decide +kernel
set_option maxRecDepth 100000 in
theorem xdr_9 : xr_L_law_9.all (fun q => decide (decode code q.1 = .ok (q.2.1, xm_lenE q.2))) = true := by decide +kernel
set_option maxRecDepth 100000 in
theorem xdr_10 : xr_L_law_10.all (fun q => decide (decode code q.1 = .ok (q.2.1, xm_lenE q.2))) = true := by decide +kernel
set_option maxRecDepth 100000 in
theorem xdr_11 : xr_L_law_11.all (fun q => decide (decode code q.1 = .ok (q.2.1, xm_lenE q.2))) = true := by decide +kernel
set_option maxRecDepth 100000 in
theorem xdr_12 : xr_L_law_12.all (fun q => decide (decode code q.1 = .ok (q.2.1, xm_lenE q.2))) = true := by decide +kernel
set_option maxRecDepth 100000 in
theorem xdr_13 : xr_L_law_13.all (fun q => decide (decode code q.1 = .ok (q.2.1, xm_lenE q.2))) = true := by decide +kernel
set_option maxRecDepth 100000 in
theorem xdr_14 : xr_L_law_14.all (fun q => decide (decode code q.1 = .ok (q.2.1, xm_lenE q.2))) = true := by decide +kernel
set_option maxRecDepth 100000 in
theorem xdr_15 : xr_L_law_15.all (fun q => decide (decode code q.1 = .ok (q.2.1, xm_lenE q.2))) = true := by decide +kernel
set_option maxRecDepth 100000 in
theorem xdr_16 : xr_L_law_16.all (fun q => decide (decode code q.1 = .ok (q.2.1, xm_lenE q.2))) = true := by decide +kernel
set_option maxRecDepth 100000 in
theorem xdr_17 : xr_L_law_17.all (fun q => decide (decode code q.1 = .ok (q.2.1, xm_lenE q.2))) = true := by decide +kernel
set_option maxRecDepth 100000 in
theorem xdr_18 : xr_L_law_18.all (fun q => decide (decode code q.1 = .ok (q.2.1, xm_lenE q.2))) = true := by decide +kernel
set_option maxRecDepth 100000 in
theorem xdr_19 : xr_L_law_19.all (fun q => decide (decode code q.1 = .ok (q.2.1, xm_lenE q.2))) = true := by decide +kernel
set_option maxRecDepth 100000 in
theorem xdr_20 : xr_L_law_20.all (fun q => decide (decode code q.1 = .ok (q.2.1, xm_lenE q.2))) = true := by decide +kernel
set_option maxRecDepth 100000 in
theorem xdr_21 : xr_L_law_21.all (fun q => decide (decode code q.1 = .ok (q.2.1, xm_lenE q.2))) = true := by decide +kernel
set_option maxRecDepth 100000 in
theorem xdr_22 : xr_L_law_22.all (fun q => decide (decode code q.1 = .ok (q.2.1, xm_lenE q.2))) = true := by decide +kernel
set_option maxRecDepth 100000 in
theorem xdr_23 : xr_L_law_23.all (fun q => decide (decode code q.1 = .ok (q.2.1, xm_lenE q.2))) = true := by decide +kernel
set_option maxRecDepth 100000 in
theorem xdr_24 : xr_L_law_24.all (fun q => decide (decode code q.1 = .ok (q.2.1, xm_lenE q.2))) = true := by decide +kernel
set_option maxRecDepth 100000 in
theorem xdr_25 : xr_L_law_25.all (fun q => decide (decode code q.1 = .ok (q.2.1, xm_lenE q.2))) = true := by decide +kernel
set_option maxRecDepth 100000 in
theorem xdr_26 : xr_L_law_26.all (fun q => decide (decode code q.1 = .ok (q.2.1, xm_lenE q.2))) = true := by decide +kernel
set_option maxRecDepth 100000 in
theorem xdr_27 : xr_L_law_27.all (fun q => decide (decode code q.1 = .ok (q.2.1, xm_lenE q.2))) = true := by decide +kernel
set_option maxRecDepth 100000 in
theorem xdr_28 : xr_L_law_28.all (fun q => decide (decode code q.1 = .ok (q.2.1, xm_lenE q.2))) = true := by decide +kernel
set_option maxRecDepth 100000 in
theorem xdr_29 : xr_L_law_29.all (fun q => decide (decode code q.1 = .ok (q.2.1, xm_lenE q.2))) = true := by decide +kernel
set_option maxRecDepth 100000 in
theorem xdr_30 : xr_L_law_30.all (fun q => decide (decode code q.1 = .ok (q.2.1, xm_lenE q.2))) = true := by decide +kernel
set_option maxRecDepth 100000 in
theorem xdr_31 : xr_L_law_31.all (fun q => decide (decode code q.1 = .ok (q.2.1, xm_lenE q.2))) = true := by decide +kernel
set_option maxRecDepth 100000 in
theorem xdr_32 : xr_L_law_32.all (fun q => decide (decode code q.1 = .ok (q.2.1, xm_lenE q.2))) = true := by decide +kernel
set_option maxRecDepth 100000 in
theorem xdr_33 : xr_L_law_33.all (fun q => decide (decode code q.1 = .ok (q.2.1, xm_lenE q.2))) = true := by decide +kernel
set_option maxRecDepth 100000 in
theorem xdr_34 : xr_L_law_34.all (fun q => decide (decode code q.1 = .ok (q.2.1, xm_lenE q.2))) = true := by decide +kernel
set_option maxRecDepth 100000 in
theorem xdr_35 : xr_L_law_35.all (fun q => decide (decode code q.1 = .ok (q.2.1, xm_lenE q.2))) = true := by decide +kernel
set_option maxRecDepth 100000 in
theorem xdr_36 : xr_L_law_36.all (fun q => decide (decode code q.1 = .ok (q.2.1, xm_lenE q.2))) = true := by decide +kernel
set_option maxRecDepth 100000 in
theorem xdr_37 : xr_L_law_37.all (fun q => decide (decode code q.1 = .ok (q.2.1, xm_lenE q.2))) = true := by decide +kernel
set_option maxRecDepth 100000 in
theorem xdr_38 : xr_L_law_38.all (fun q => decide (decode code q.1 = .ok (q.2.1, xm_lenE q.2))) = true := by decide +kernel
set_option maxRecDepth 100000 in
theorem xdr_39 : xr_L_law_39.all (fun q => decide (decode code q.1 = .ok (q.2.1, xm_lenE q.2))) = true := by decide +kernel
set_option maxRecDepth 100000 in
theorem xdr_40 : xr_L_law_40.all (fun q => decide (decode code q.1 = .ok (q.2.1, xm_lenE q.2))) = true := by decide +kernel
set_option maxRecDepth 100000 in
theorem xdr_41 : xr_L_law_41.all (fun q => decide (decode code q.1 = .ok (q.2.1, xm_lenE q.2))) = true := by decide +kernel
set_option maxRecDepth 100000 in
theorem xdr_42 : xr_L_law_42.all (fun q => decide (decode code q.1 = .ok (q.2.1, xm_lenE q.2))) = true := by decide +kernel
set_option maxRecDepth 100000 in
theorem xdr_43 : xr_L_law_43.all (fun q => decide (decode code q.1 = .ok (q.2.1, xm_lenE q.2))) = true := by decide +kernel
set_option maxRecDepth 100000 in
theorem xdr_44 : xr_L_law_44.all (fun q => decide (decode code q.1 = .ok (q.2.1, xm_lenE q.2))) = true := by decide +kernel
set_option maxRecDepth 100000 in
theorem xdr_45 : xr_L_law_45.all (fun q => decide (decode code q.1 = .ok (q.2.1, xm_lenE q.2))) = true := by decide +kernel
theorem xd_L_law : xm_dec xM_L_law = true := by
  show List.all [xr_L_law_0, xr_L_law_1, xr_L_law_2, xr_L_law_3, xr_L_law_4, xr_L_law_5, xr_L_law_6, xr_L_law_7, xr_L_law_8, xr_L_law_9, xr_L_law_10, xr_L_law_11, xr_L_law_12, xr_L_law_13, xr_L_law_14, xr_L_law_15, xr_L_law_16, xr_L_law_17, xr_L_law_18, xr_L_law_19, xr_L_law_20, xr_L_law_21, xr_L_law_22, xr_L_law_23, xr_L_law_24, xr_L_law_25, xr_L_law_26, xr_L_law_27, xr_L_law_28, xr_L_law_29, xr_L_law_30, xr_L_law_31, xr_L_law_32, xr_L_law_33, xr_L_law_34, xr_L_law_35, xr_L_law_36, xr_L_law_37, xr_L_law_38, xr_L_law_39, xr_L_law_40, xr_L_law_41, xr_L_law_42, xr_L_law_43, xr_L_law_44, xr_L_law_45] (fun row => row.all (fun q => decide (decode code q.1 = .ok (q.2.1, xm_lenE q.2)))) = true
  simp only [List.all_cons, List.all_nil, Bool.and_true, xdr_0, xdr_1, xdr_2, xdr_3, xdr_4, xdr_5, xdr_6, xdr_7, xdr_8, xdr_9, xdr_10, xdr_11, xdr_12, xdr_13, xdr_14, xdr_15, xdr_16, xdr_17, xdr_18, xdr_19, xdr_20, xdr_21, xdr_22, xdr_23, xdr_24, xdr_25, xdr_26, xdr_27, xdr_28, xdr_29, xdr_30, xdr_31, xdr_32, xdr_33, xdr_34, xdr_35, xdr_36, xdr_37, xdr_38, xdr_39, xdr_40, xdr_41, xdr_42, xdr_43, xdr_44, xdr_45]
set_option maxRecDepth 100000 in
theorem xk_L_law : xm_chkM xSL xZL xQL xCI xCJ 23 xM_L_law = true := by decide +kernel
theorem xo_L_law : xm_okM xSL xZL xQL xX xM_L_law := xm_okM_of xtabs (o := 23) rfl xk_L_law xd_L_law
