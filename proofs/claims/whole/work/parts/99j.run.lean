/-! the start: pieces of the run; printed by wip/gen/mk99h.py -/
set_option maxRecDepth 1000000 in
theorem cti_r0 : cTo (cO 152 302 cst_0 cst_2 (cC xX 3000 4)) xM_X11_init 61 cti_0 cti_1 = true := by decide +kernel
set_option maxRecDepth 1000000 in
theorem ctl_r0 : cTo (cO 131 302 cst_3 cst_2 (cC xX 3000 8)) xM_L_law 16 ctl_0 ctl_1 = true := by decide +kernel
theorem ctt_ok {b : xm_H} : ∀ h, cRel b cst_0 h → ∃ h', xm_Rn xX 58 152 [.ref 302] h (.inl none) h' ∧ cRel b cst_2 h' := fun h R => by
  have hC : cOk b (xm_Rn xX 57) (cC xX 3000 3) := cC_at (by omega)
  have R : cRel b ctt_0.2.2.2 h := R
  obtain ⟨h1, R1, k1⟩ := cN_ok hC _ _ _ h (cTo_1 ctt_r0) R
  obtain ⟨h2, R2, k2⟩ := cN_ok hC _ _ _ h1 (cTo_1 ctt_r1) R1
  obtain ⟨h3, R3, k3⟩ := cN_ok hC _ _ _ h2 (cTo_1 ctt_r2) R2
  obtain ⟨h4, R4, k4⟩ := cN_ok hC _ _ _ h3 (cTo_1 ctt_r3) R3
  obtain ⟨h5, R5, k5⟩ := cN_ok hC _ _ _ h4 (cTo_1 ctt_r4) R4
  obtain ⟨h6, R6, k6⟩ := cN_ok hC _ _ _ h5 (cTo_1 ctt_r5) R5
  obtain ⟨h7, R7, k7⟩ := cN_ok hC _ _ _ h6 (cTo_1 ctt_r6) R6
  obtain ⟨h8, R8, k8⟩ := cN_ok hC _ _ _ h7 (cTo_1 ctt_r7) R7
  obtain ⟨h9, R9, k9⟩ := cN_ok hC _ _ _ h8 (cTo_1 ctt_r8) R8
  obtain ⟨h10, R10, k10⟩ := cN_ok hC _ _ _ h9 (cTo_1 ctt_r9) R9
  obtain ⟨h11, R11, k11⟩ := cN_ok hC _ _ _ h10 (cTo_1 ctt_r10) R10
  obtain ⟨h12, R12, k12⟩ := cN_ok hC _ _ _ h11 (cTo_1 ctt_r11) R11
  obtain ⟨h13, R13, k13⟩ := cN_ok hC _ _ _ h12 (cTo_1 ctt_r12) R12
  obtain ⟨h14, R14, k14⟩ := cN_ok hC _ _ _ h13 (cTo_1 ctt_r13) R13
  obtain ⟨h15, R15, k15⟩ := cN_ok hC _ _ _ h14 (cTo_1 ctt_r14) R14
  obtain ⟨h16, R16, k16⟩ := cN_ok hC _ _ _ h15 (cTo_1 ctt_r15) R15
  exact ⟨h16, ⟨xM_X11_takeTerms, rfl, by decide, k1 _ (k2 _ (k3 _ (k4 _ (k5 _ (k6 _ (k7 _ (k8 _ (k9 _ (k10 _ (k11 _ (k12 _ (k13 _ (k14 _ (k15 _ (k16 _ (xm_ret (by decide +kernel) ⟨rfl, rfl⟩))))))))))))))))⟩, R16⟩
theorem cti_ok {b : xm_H} : ∀ h, cRel b cst_3 h → ∃ h', xm_Rn xX 60 131 [.ref 302] h (.inl none) h' ∧ cRel b cst_2 h' := fun h R => by
  have hC : cOk b (xm_Rn xX 59) (cO 152 302 cst_0 cst_2 (cC xX 3000 4)) := cO_ok (cC_at (by omega)) (fun h R => by
    obtain ⟨h', q1, q2⟩ := ctt_ok h R
    exact ⟨h', xm_Rn_le (by omega) q1, q2⟩)
  have R : cRel b cti_0.2.2.2 h := R
  obtain ⟨h1, R1, k1⟩ := cN_ok hC _ _ _ h (cTo_1 cti_r0) R
  exact ⟨h1, ⟨xM_X11_init, rfl, by decide, k1 _ (xm_ret (by decide +kernel) ⟨rfl, rfl⟩)⟩, R1⟩
abbrev cs28 : cSt := cst_5
theorem cs_run {L : Nat} {xs : zV} : ∃ h, cRel (xhc L xs) cs28 h ∧ ∀ Q, xm_W (xm_Rn xX 60) xM_L_law Q 28 [some (.ref 0), some (.ref 160), some (.ref 302), some (.ref 316), some (.ref 317), some (.int 0), none, none, none] [] h → xm_W (xm_Rn xX 60) xM_L_law Q 0 (xm_en 9 [.ref 0]) [] (xhc L xs) := by
  have hC : cOk (xhc L xs) (xm_Rn xX 60) (cO 131 302 cst_3 cst_2 (cC xX 3000 8)) := cO_ok (cC_at (by omega)) cti_ok
  have R : cRel (xhc L xs) ctl_0.2.2.2 (xhc L xs) := ⟨rfl, fun a ha => ⟨rfl, fun j => ⟨rfl, rfl⟩⟩, fun i κ e => by simp [ctl_0, cst_4] at e, fun a k h1 h2 => by
    have : xm_n (xhc L xs) = 160 := rfl
    omega, fun t ht => by simp [ctl_0, cst_4] at ht, fun t ht => by simp [ctl_0, cst_4] at ht⟩
  obtain ⟨h1, R1, k1⟩ := cN_ok hC _ _ _ (xhc L xs) (cTo_1 ctl_r0) R
  exact ⟨h1, R1, fun Q hw => k1 _ (hw)⟩
