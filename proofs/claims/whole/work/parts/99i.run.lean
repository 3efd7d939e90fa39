/-! the start: pieces of the run; printed by wip/gen/mk99h.py -/
set_option maxRecDepth 1000000 in
theorem ctt_r8 : cTo (cC xX 3000 3) xM_X11_takeTerms 1500 ctt_8 ctt_9 = true := by decide +kernel
set_option maxRecDepth 1000000 in
theorem ctt_r9 : cTo (cC xX 3000 3) xM_X11_takeTerms 1500 ctt_9 ctt_10 = true := by decide +kernel
set_option maxRecDepth 1000000 in
theorem ctt_r10 : cTo (cC xX 3000 3) xM_X11_takeTerms 1500 ctt_10 ctt_11 = true := by decide +kernel
set_option maxRecDepth 1000000 in
theorem ctt_r11 : cTo (cC xX 3000 3) xM_X11_takeTerms 1500 ctt_11 ctt_12 = true := by decide +kernel
set_option maxRecDepth 1000000 in
theorem ctt_r12 : cTo (cC xX 3000 3) xM_X11_takeTerms 1500 ctt_12 ctt_13 = true := by decide +kernel
set_option maxRecDepth 1000000 in
theorem ctt_r13 : cTo (cC xX 3000 3) xM_X11_takeTerms 1500 ctt_13 ctt_14 = true := by decide +kernel
set_option maxRecDepth 1000000 in
theorem ctt_r14 : cTo (cC xX 3000 3) xM_X11_takeTerms 1500 ctt_14 ctt_15 = true := by decide +kernel
set_option maxRecDepth 1000000 in
theorem ctt_r15 : cTo (cC xX 3000 3) xM_X11_takeTerms 1160 ctt_15 ctt_16 = true := by decide +kernel
