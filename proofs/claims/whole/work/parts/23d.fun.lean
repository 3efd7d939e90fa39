/-! printed by wip/gen/gen23.py: methods as functions of their arguments and the heap -/
def f_X10_plan (ρ : Nat) (x1 : Int32) (h : xm_H) : Option ((Int32 ⊕ Nat × Nat) × xm_H) := (xe (f_X10_requireCampaign ρ x1 h) (fun v1 h2 => (xb (f_X2_planned ρ x1 h2) fun v4 h5 => (some (.inl v4, h5)))) (fun q7 h8 => (some (.inr q7, h8))))
theorem t_X10_plan {ρ : Nat} {δ : Nat} {x1 : Int32} {h : xm_H} {w : (Int32 ⊕ Nat × Nat) × xm_H}  (hS : xS ρ δ h) (hf : f_X10_plan ρ x1 h = some w) : xm_Rn xX 2 86 [.ref 160, .int x1] h (xti w.1) w.2 ∧ xS ρ δ w.2 := by
  refine xt_mk (φ := fun h => xS ρ δ h) (M := xM_X10_plan) (ls := [some (.ref 160), some (.int x1)]) rfl (Nat.le_of_ble_eq_true rfl) rfl (fun Q hQ => ?_)
  unfold f_X10_plan at hf
  refine xw_G (pc' := 1) (st' := [.ref 160]) rfl rfl trivial ?_
  refine xw_G (pc' := 2) (st' := [.int x1, .ref 160]) rfl rfl trivial ?_
  refine xe_e hf (fun v1 h2 e3 hf => ?_) (fun q7 h8 e3 hf => ?_)
  · refine xw_V (v := none) rfl rfl (xkf (xs_k hS rfl rfl : xm_k h 160 = (0, 0))) (Nat.le_of_ble_eq_true rfl) (Nat.le_of_ble_eq_true rfl) (xm_Rn_le (Nat.le_of_ble_eq_true rfl) (t_X10_requireCampaign  hS e3).1) ?_
    have hS := (t_X10_requireCampaign  hS e3).2
    show xm_W _ _ _ 5 _ [] _
    refine xw_G (pc' := 6) (st' := [.ref 160]) rfl rfl trivial ?_
    refine xw_gr rfl (xkf (xs_k hS rfl rfl : xm_k h2 160 = (0, 0))) (xs_r hS rfl) ?_
    refine xw_G (pc' := 10) (st' := [.int x1, .ref 182]) rfl rfl trivial ?_
    refine xb_e hf (fun v4 h5 e6 hf => ?_)
    refine xw_V (v := some (.int v4)) rfl rfl (xkf (xs_k hS rfl rfl : xm_k h2 182 = (3, 0))) (Nat.le_of_ble_eq_true rfl) (Nat.le_of_ble_eq_true rfl) (xm_Rn_le (Nat.le_of_ble_eq_true rfl) (t_X2_planned  hS e6).1) ?_
    have hS := (t_X2_planned  hS e6).2
    show xm_W _ _ _ 13 _ [.int v4] _
    exact xr_i (inj := xti) rfl rfl rfl rfl hf hQ hS
  · refine xw_VX (x := q7) rfl rfl (xkf (xs_k hS rfl rfl : xm_k h 160 = (0, 0))) (Nat.le_of_ble_eq_true rfl) (Nat.le_of_ble_eq_true rfl) (xm_Rn_le (Nat.le_of_ble_eq_true rfl) (t_X10_requireCampaign  hS e3).1) rfl ?_
    have hS := (t_X10_requireCampaign  hS e3).2
    exact xr_x (inj := xti) rfl hf hQ hS
def f_L_plan (ρ : Nat) (x1 : Int32) (h : xm_H) : Option (Int32 × xm_H) := (xe (f_X10_plan ρ x1 h) (fun v1 h2 => (xl (xm_sl h2 316 0 (Int32.toInt64 v1)) fun h4 => (some ((0 : Int32), h4)))) (fun q6 h7 => (if (q6).1 = 14 then (some ((1 : Int32), h7)) else none)))
theorem t_L_plan {ρ : Nat} {δ : Nat} {x1 : Int32} {h : xm_H} {w : Int32 × xm_H}  (hS : xS ρ δ h) (hf : f_L_plan ρ x1 h = some w) : xm_Rn xX 3 334 [.ref 160, .int x1, .ref 316] h (xji w.1) w.2 ∧ xS ρ δ w.2 := by
  refine xt_mk (φ := fun h => xS ρ δ h) (M := xM_L_plan) (ls := [some (.ref 160), some (.int x1), some (.ref 316), none]) rfl (Nat.le_of_ble_eq_true rfl) rfl (fun Q hQ => ?_)
  unfold f_L_plan at hf
  refine xw_G (pc' := 1) (st' := [.ref 316]) rfl rfl trivial ?_
  refine xw_G (pc' := 2) (st' := [.int (0 : Int32), .ref 316]) rfl rfl trivial ?_
  refine xw_G (pc' := 3) (st' := [.ref 160, .int (0 : Int32), .ref 316]) rfl rfl trivial ?_
  refine xw_G (pc' := 4) (st' := [.int x1, .ref 160, .int (0 : Int32), .ref 316]) rfl rfl trivial ?_
  refine xe_e hf (fun v1 h2 e3 hf => ?_) (fun q6 h7 e3 hf => ?_)
  · refine xw_V (v := some (.int v1)) rfl rfl (xkf (xs_k hS rfl rfl : xm_k h 160 = (0, 0))) (Nat.le_of_ble_eq_true rfl) (Nat.le_of_ble_eq_true rfl) (xm_Rn_le (Nat.le_of_ble_eq_true rfl) (t_X10_plan  hS e3).1) ?_
    have hS := (t_X10_plan  hS e3).2
    show xm_W _ _ _ 7 _ [.int v1, .int (0 : Int32), .ref 316] _
    refine xw_G (pc' := 8) (st' := [.long (Int32.toInt64 v1), .int (0 : Int32), .ref 316]) rfl rfl trivial ?_
    refine xa_l rfl (xkf (xs_k hS rfl rfl : xm_k h2 316 = (104, 1))) (xkn (xs_k hS rfl rfl : xm_k h2 316 = (104, 1))) (by decide : xin (0 : Int32) 1) (Nat.le_of_ble_eq_true rfl) hf (fun h4 e5 hf => ?_)
    have hS := xS_sl hS e5
    refine xw_G (pc' := 15) (st' := []) rfl rfl trivial ?_
    refine xw_G (pc' := 16) (st' := [.int (0 : Int32)]) rfl rfl trivial ?_
    exact xr_i (inj := xji) rfl rfl rfl rfl hf hQ hS
  · by_cases hc8 : (q6).1 = 14
    · rw [if_pos hc8] at hf
      refine xw_VH (x := q6) (p := 12) rfl rfl (xkf (xs_k hS rfl rfl : xm_k h 160 = (0, 0))) (Nat.le_of_ble_eq_true rfl) (Nat.le_of_ble_eq_true rfl) (xm_Rn_le (Nat.le_of_ble_eq_true rfl) (t_X10_plan  hS e3).1) (by rw [hc8]; rfl) ?_
      have hS := (t_X10_plan  hS e3).2
      refine xw_G (pc' := 13) (ls' := [some (.ref 160), some (.int x1), some (.ref 316), some (.ref ((q6).2))]) (st' := []) rfl rfl (Nat.le_of_ble_eq_true rfl) ?_
      refine xw_G (pc' := 14) (st' := [.int (1 : Int32)]) rfl rfl trivial ?_
      exact xr_i (inj := xji) rfl rfl rfl rfl hf hQ hS
    · rw [if_neg hc8] at hf
      exact (xn_e hf).elim
def f_X11_planOf (x1 : Int32) (h : xm_H) : Option (Int32 × xm_H) := (xb (f_X11_of x1 (1 : Int32) h) fun v1 h2 => (if ¬ (xm_i h2 308 0) = 0 then (if ¬ (xm_i h2 308 0) = 0 then (some ((v1 * ((1 : Int32) + ((xm_i h2 303 0) - (xm_i h2 303 0) / (xm_i h2 308 0) * (xm_i h2 308 0)))) / (xm_i h2 308 0), h2)) else none) else none))
theorem t_X11_planOf {ρ : Nat} {δ : Nat} {x1 : Int32} {h : xm_H} {w : Int32 × xm_H}  (hS : xS ρ δ h) (hf : f_X11_planOf x1 h = some w) : xm_Rn xX 2 174 [.ref 302, .int x1] h (xji w.1) w.2 ∧ xS ρ δ w.2 := by
  refine xt_mk (φ := fun h => xS ρ δ h) (M := xM_X11_planOf) (ls := [some (.ref 302), some (.int x1)]) rfl (Nat.le_of_ble_eq_true rfl) rfl (fun Q hQ => ?_)
  unfold f_X11_planOf at hf
  refine xw_G (pc' := 1) (st' := [.ref 302]) rfl rfl trivial ?_
  refine xw_G (pc' := 2) (st' := [.int x1, .ref 302]) rfl rfl trivial ?_
  refine xw_G (pc' := 3) (st' := [.int (1 : Int32), .int x1, .ref 302]) rfl rfl trivial ?_
  refine xb_e hf (fun v1 h2 e3 hf => ?_)
  refine xw_V (v := some (.int v1)) rfl rfl (xkf (xs_k hS rfl rfl : xm_k h 302 = (11, 0))) (Nat.le_of_ble_eq_true rfl) (Nat.le_of_ble_eq_true rfl) (xm_Rn_le (Nat.le_of_ble_eq_true rfl) (t_X11_of  hS e3).1) ?_
  have hS := (t_X11_of  hS e3).2
  show xm_W _ _ _ 6 _ [.int v1] _
  refine xw_G (pc' := 7) (st' := [.int (1 : Int32), .int v1]) rfl rfl trivial ?_
  refine xw_G (pc' := 8) (st' := [.ref 302, .int (1 : Int32), .int v1]) rfl rfl trivial ?_
  refine xw_gr rfl (xkf (xs_k hS rfl rfl : xm_k h2 302 = (11, 0))) (xs_r hS rfl) ?_
  refine xw_G (pc' := 12) (st' := [.int (0 : Int32), .ref 303, .int (1 : Int32), .int v1]) rfl rfl trivial ?_
  refine xa_ld (t := 100) (τ := 0) (v := .int (xm_i h2 303 0)) rfl rfl (xkf (xs_k hS rfl rfl : xm_k h2 303 = (100, 2217))) (xkn (xs_k hS rfl rfl : xm_k h2 303 = (100, 2217))) (by decide : xin (0 : Int32) 2217) rfl ?_
  refine xw_G (pc' := 14) (st' := [.ref 302, .int (xm_i h2 303 0), .int (1 : Int32), .int v1]) rfl rfl trivial ?_
  refine xw_gr rfl (xkf (xs_k hS rfl rfl : xm_k h2 302 = (11, 0))) (xs_r hS rfl) ?_
  refine xw_G (pc' := 18) (st' := [.int (0 : Int32), .ref 308, .int (xm_i h2 303 0), .int (1 : Int32), .int v1]) rfl rfl trivial ?_
  refine xa_ld (t := 100) (τ := 0) (v := .int (xm_i h2 308 0)) rfl rfl (xkf (xs_k hS rfl rfl : xm_k h2 308 = (100, 72))) (xkn (xs_k hS rfl rfl : xm_k h2 308 = (100, 72))) (by decide : xin (0 : Int32) 72) rfl ?_
  refine xg_e hf (fun hg4 hf => ?_)
  refine xw_G (pc' := 20) (st' := [.int ((xm_i h2 303 0) - (xm_i h2 303 0) / (xm_i h2 308 0) * (xm_i h2 308 0)), .int (1 : Int32), .int v1]) rfl rfl hg4 ?_
  refine xw_G (pc' := 21) (st' := [.int ((1 : Int32) + ((xm_i h2 303 0) - (xm_i h2 303 0) / (xm_i h2 308 0) * (xm_i h2 308 0))), .int v1]) rfl rfl trivial ?_
  refine xw_G (pc' := 22) (st' := [.int (v1 * ((1 : Int32) + ((xm_i h2 303 0) - (xm_i h2 303 0) / (xm_i h2 308 0) * (xm_i h2 308 0))))]) rfl rfl trivial ?_
  refine xw_G (pc' := 23) (st' := [.ref 302, .int (v1 * ((1 : Int32) + ((xm_i h2 303 0) - (xm_i h2 303 0) / (xm_i h2 308 0) * (xm_i h2 308 0))))]) rfl rfl trivial ?_
  refine xw_gr rfl (xkf (xs_k hS rfl rfl : xm_k h2 302 = (11, 0))) (xs_r hS rfl) ?_
  refine xw_G (pc' := 27) (st' := [.int (0 : Int32), .ref 308, .int (v1 * ((1 : Int32) + ((xm_i h2 303 0) - (xm_i h2 303 0) / (xm_i h2 308 0) * (xm_i h2 308 0))))]) rfl rfl trivial ?_
  refine xa_ld (t := 100) (τ := 0) (v := .int (xm_i h2 308 0)) rfl rfl (xkf (xs_k hS rfl rfl : xm_k h2 308 = (100, 72))) (xkn (xs_k hS rfl rfl : xm_k h2 308 = (100, 72))) (by decide : xin (0 : Int32) 72) rfl ?_
  refine xg_e hf (fun hg5 hf => ?_)
  refine xw_G (pc' := 29) (st' := [.int ((v1 * ((1 : Int32) + ((xm_i h2 303 0) - (xm_i h2 303 0) / (xm_i h2 308 0) * (xm_i h2 308 0)))) / (xm_i h2 308 0))]) rfl rfl hg5 ?_
  exact xr_i (inj := xji) rfl rfl rfl rfl hf hQ hS
def f_X11_plan (x1 : Int32) (h : xm_H) : Option (Int32 × xm_H) := (xb (f_X11_isCampaign x1 h) fun v1 h2 => (xb (f_X11_good v1 h2) fun v4 h5 => (if v4 = 0 then (some ((0 : Int32), h5)) else (xb (f_X11_planOf x1 h5) fun v8 h9 => (some (v8, h9))))))
theorem t_X11_plan {ρ : Nat} {δ : Nat} {x1 : Int32} {h : xm_H} {w : Int32 × xm_H}  (hS : xS ρ δ h) (hf : f_X11_plan x1 h = some w) : xm_Rn xX 3 186 [.ref 302, .int x1] h (xji w.1) w.2 ∧ xS ρ δ w.2 := by
  refine xt_mk (φ := fun h => xS ρ δ h) (M := xM_X11_plan) (ls := [some (.ref 302), some (.int x1)]) rfl (Nat.le_of_ble_eq_true rfl) rfl (fun Q hQ => ?_)
  unfold f_X11_plan at hf
  refine xw_G (pc' := 1) (st' := [.ref 302]) rfl rfl trivial ?_
  refine xw_G (pc' := 2) (st' := [.ref 302, .ref 302]) rfl rfl trivial ?_
  refine xw_G (pc' := 3) (st' := [.int x1, .ref 302, .ref 302]) rfl rfl trivial ?_
  refine xb_e hf (fun v1 h2 e3 hf => ?_)
  refine xw_V (v := some (.int v1)) rfl rfl (xkf (xs_k hS rfl rfl : xm_k h 302 = (11, 0))) (Nat.le_of_ble_eq_true rfl) (Nat.le_of_ble_eq_true rfl) (xm_Rn_le (Nat.le_of_ble_eq_true rfl) (t_X11_isCampaign  hS e3).1) ?_
  have hS := (t_X11_isCampaign  hS e3).2
  show xm_W _ _ _ 6 _ [.int v1, .ref 302] _
  refine xb_e hf (fun v4 h5 e6 hf => ?_)
  refine xw_V (v := some (.int v4)) rfl rfl (xkf (xs_k hS rfl rfl : xm_k h2 302 = (11, 0))) (Nat.le_of_ble_eq_true rfl) (Nat.le_of_ble_eq_true rfl) (xm_Rn_le (Nat.le_of_ble_eq_true rfl) (t_X11_good  hS e6).1) ?_
  have hS := (t_X11_good  hS e6).2
  show xm_W _ _ _ 9 _ [.int v4] _
  refine xj_if_eq rfl hf (fun hc7 hf => ?_) (fun hc7 hf => ?_)
  · refine xw_G (pc' := 21) (st' := [.int (0 : Int32)]) rfl rfl trivial ?_
    exact xr_i (inj := xji) rfl rfl rfl rfl hf hQ hS
  · refine xw_G (pc' := 13) (st' := [.ref 302]) rfl rfl trivial ?_
    refine xw_G (pc' := 14) (st' := [.int x1, .ref 302]) rfl rfl trivial ?_
    refine xb_e hf (fun v8 h9 e10 hf => ?_)
    refine xw_V (v := some (.int v8)) rfl rfl (xkf (xs_k hS rfl rfl : xm_k h5 302 = (11, 0))) (Nat.le_of_ble_eq_true rfl) (Nat.le_of_ble_eq_true rfl) (xm_Rn_le (Nat.le_of_ble_eq_true rfl) (t_X11_planOf  hS e10).1) ?_
    have hS := (t_X11_planOf  hS e10).2
    show xm_W _ _ _ 17 _ [.int v8] _
    refine xw_G (pc' := 21) (st' := [.int v8]) rfl rfl trivial ?_
    exact xr_i (inj := xji) rfl rfl rfl rfl hf hQ hS
def f_X10_mode (ρ : Nat) (x1 : Int32) (h : xm_H) : Option ((Int32 ⊕ Nat × Nat) × xm_H) := (xe (f_X10_requireCampaign ρ x1 h) (fun v1 h2 => (if xin x1 8 then (some (.inl (xm_i h2 205 (Int32.toNatClampNeg x1)), h2)) else none)) (fun q5 h6 => (some (.inr q5, h6))))
theorem t_X10_mode {ρ : Nat} {δ : Nat} {x1 : Int32} {h : xm_H} {w : (Int32 ⊕ Nat × Nat) × xm_H}  (hS : xS ρ δ h) (hf : f_X10_mode ρ x1 h = some w) : xm_Rn xX 2 87 [.ref 160, .int x1] h (xti w.1) w.2 ∧ xS ρ δ w.2 := by
  refine xt_mk (φ := fun h => xS ρ δ h) (M := xM_X10_mode) (ls := [some (.ref 160), some (.int x1)]) rfl (Nat.le_of_ble_eq_true rfl) rfl (fun Q hQ => ?_)
  unfold f_X10_mode at hf
  refine xw_G (pc' := 1) (st' := [.ref 160]) rfl rfl trivial ?_
  refine xw_G (pc' := 2) (st' := [.int x1, .ref 160]) rfl rfl trivial ?_
  refine xe_e hf (fun v1 h2 e3 hf => ?_) (fun q5 h6 e3 hf => ?_)
  · refine xw_V (v := none) rfl rfl (xkf (xs_k hS rfl rfl : xm_k h 160 = (0, 0))) (Nat.le_of_ble_eq_true rfl) (Nat.le_of_ble_eq_true rfl) (xm_Rn_le (Nat.le_of_ble_eq_true rfl) (t_X10_requireCampaign  hS e3).1) ?_
    have hS := (t_X10_requireCampaign  hS e3).2
    show xm_W _ _ _ 5 _ [] _
    refine xw_G (pc' := 6) (st' := [.ref 160]) rfl rfl trivial ?_
    refine xw_gr rfl (xkf (xs_k hS rfl rfl : xm_k h2 160 = (0, 0))) (xs_r hS rfl) ?_
    refine xw_gr rfl (xkf (xs_k hS rfl rfl : xm_k h2 182 = (3, 0))) (xs_r hS rfl) ?_
    refine xw_gr rfl (xkf (xs_k hS rfl rfl : xm_k h2 201 = (8, 0))) (xs_r hS rfl) ?_
    refine xw_G (pc' := 16) (st' := [.int x1, .ref 205]) rfl rfl trivial ?_
    refine xg_e hf (fun hg4 hf => ?_)
    refine xa_ld (t := 100) (τ := 0) (v := .int (xm_i h2 205 (Int32.toNatClampNeg x1))) rfl rfl (xkf (xs_k hS rfl rfl : xm_k h2 205 = (100, 8))) (xkn (xs_k hS rfl rfl : xm_k h2 205 = (100, 8))) hg4 rfl ?_
    exact xr_i (inj := xti) rfl rfl rfl rfl hf hQ hS
  · refine xw_VX (x := q5) rfl rfl (xkf (xs_k hS rfl rfl : xm_k h 160 = (0, 0))) (Nat.le_of_ble_eq_true rfl) (Nat.le_of_ble_eq_true rfl) (xm_Rn_le (Nat.le_of_ble_eq_true rfl) (t_X10_requireCampaign  hS e3).1) rfl ?_
    have hS := (t_X10_requireCampaign  hS e3).2
    exact xr_x (inj := xti) rfl hf hQ hS
def f_L_mode (ρ : Nat) (x1 : Int32) (h : xm_H) : Option (Int32 × xm_H) := (xe (f_X10_mode ρ x1 h) (fun v1 h2 => (xl (xm_sl h2 316 0 (Int32.toInt64 v1)) fun h4 => (some ((0 : Int32), h4)))) (fun q6 h7 => (if (q6).1 = 14 then (some ((1 : Int32), h7)) else none)))
theorem t_L_mode {ρ : Nat} {δ : Nat} {x1 : Int32} {h : xm_H} {w : Int32 × xm_H}  (hS : xS ρ δ h) (hf : f_L_mode ρ x1 h = some w) : xm_Rn xX 3 335 [.ref 160, .int x1, .ref 316] h (xji w.1) w.2 ∧ xS ρ δ w.2 := by
  refine xt_mk (φ := fun h => xS ρ δ h) (M := xM_L_mode) (ls := [some (.ref 160), some (.int x1), some (.ref 316), none]) rfl (Nat.le_of_ble_eq_true rfl) rfl (fun Q hQ => ?_)
  unfold f_L_mode at hf
  refine xw_G (pc' := 1) (st' := [.ref 316]) rfl rfl trivial ?_
  refine xw_G (pc' := 2) (st' := [.int (0 : Int32), .ref 316]) rfl rfl trivial ?_
  refine xw_G (pc' := 3) (st' := [.ref 160, .int (0 : Int32), .ref 316]) rfl rfl trivial ?_
  refine xw_G (pc' := 4) (st' := [.int x1, .ref 160, .int (0 : Int32), .ref 316]) rfl rfl trivial ?_
  refine xe_e hf (fun v1 h2 e3 hf => ?_) (fun q6 h7 e3 hf => ?_)
  · refine xw_V (v := some (.int v1)) rfl rfl (xkf (xs_k hS rfl rfl : xm_k h 160 = (0, 0))) (Nat.le_of_ble_eq_true rfl) (Nat.le_of_ble_eq_true rfl) (xm_Rn_le (Nat.le_of_ble_eq_true rfl) (t_X10_mode  hS e3).1) ?_
    have hS := (t_X10_mode  hS e3).2
    show xm_W _ _ _ 7 _ [.int v1, .int (0 : Int32), .ref 316] _
    refine xw_G (pc' := 8) (st' := [.long (Int32.toInt64 v1), .int (0 : Int32), .ref 316]) rfl rfl trivial ?_
    refine xa_l rfl (xkf (xs_k hS rfl rfl : xm_k h2 316 = (104, 1))) (xkn (xs_k hS rfl rfl : xm_k h2 316 = (104, 1))) (by decide : xin (0 : Int32) 1) (Nat.le_of_ble_eq_true rfl) hf (fun h4 e5 hf => ?_)
    have hS := xS_sl hS e5
    refine xw_G (pc' := 15) (st' := []) rfl rfl trivial ?_
    refine xw_G (pc' := 16) (st' := [.int (0 : Int32)]) rfl rfl trivial ?_
    exact xr_i (inj := xji) rfl rfl rfl rfl hf hQ hS
  · by_cases hc8 : (q6).1 = 14
    · rw [if_pos hc8] at hf
      refine xw_VH (x := q6) (p := 12) rfl rfl (xkf (xs_k hS rfl rfl : xm_k h 160 = (0, 0))) (Nat.le_of_ble_eq_true rfl) (Nat.le_of_ble_eq_true rfl) (xm_Rn_le (Nat.le_of_ble_eq_true rfl) (t_X10_mode  hS e3).1) (by rw [hc8]; rfl) ?_
      have hS := (t_X10_mode  hS e3).2
      refine xw_G (pc' := 13) (ls' := [some (.ref 160), some (.int x1), some (.ref 316), some (.ref ((q6).2))]) (st' := []) rfl rfl (Nat.le_of_ble_eq_true rfl) ?_
      refine xw_G (pc' := 14) (st' := [.int (1 : Int32)]) rfl rfl trivial ?_
      exact xr_i (inj := xji) rfl rfl rfl rfl hf hQ hS
    · rw [if_neg hc8] at hf
      exact (xn_e hf).elim
def f_X11_mode (x1 : Int32) (h : xm_H) : Option (Int32 × xm_H) := (xb (f_X11_tell x1 (4 : Int32) h) fun v1 h2 => (some (v1, h2)))
theorem t_X11_mode {ρ : Nat} {δ : Nat} {x1 : Int32} {h : xm_H} {w : Int32 × xm_H}  (hS : xS ρ δ h) (hf : f_X11_mode x1 h = some w) : xm_Rn xX 4 187 [.ref 302, .int x1] h (xji w.1) w.2 ∧ xS ρ δ w.2 := by
  refine xt_mk (φ := fun h => xS ρ δ h) (M := xM_X11_mode) (ls := [some (.ref 302), some (.int x1)]) rfl (Nat.le_of_ble_eq_true rfl) rfl (fun Q hQ => ?_)
  unfold f_X11_mode at hf
  refine xw_G (pc' := 1) (st' := [.ref 302]) rfl rfl trivial ?_
  refine xw_G (pc' := 2) (st' := [.int x1, .ref 302]) rfl rfl trivial ?_
  refine xw_G (pc' := 3) (st' := [.int (4 : Int32), .int x1, .ref 302]) rfl rfl trivial ?_
  refine xb_e hf (fun v1 h2 e3 hf => ?_)
  refine xw_V (v := some (.int v1)) rfl rfl (xkf (xs_k hS rfl rfl : xm_k h 302 = (11, 0))) (Nat.le_of_ble_eq_true rfl) (Nat.le_of_ble_eq_true rfl) (xm_Rn_le (Nat.le_of_ble_eq_true rfl) (t_X11_tell  hS e3).1) ?_
  have hS := (t_X11_tell  hS e3).2
  show xm_W _ _ _ 6 _ [.int v1] _
  exact xr_i (inj := xji) rfl rfl rfl rfl hf hQ hS
def f_X10_tick  (h : xm_H) : Option (Int32 × xm_H) := (some (xm_i h 201 0, h))
theorem t_X10_tick {ρ : Nat} {δ : Nat} {h : xm_H} {w : Int32 × xm_H}  (hS : xS ρ δ h) (hf : f_X10_tick  h = some w) : xm_Rn xX 1 88 [.ref 160] h (xji w.1) w.2 ∧ xS ρ δ w.2 := by
  refine xt_mk (φ := fun h => xS ρ δ h) (M := xM_X10_tick) (ls := [some (.ref 160)]) rfl (Nat.le_of_ble_eq_true rfl) rfl (fun Q hQ => ?_)
  unfold f_X10_tick at hf
  refine xw_G (pc' := 1) (st' := [.ref 160]) rfl rfl trivial ?_
  refine xw_gr rfl (xkf (xs_k hS rfl rfl : xm_k h 160 = (0, 0))) (xs_r hS rfl) ?_
  refine xw_gr rfl (xkf (xs_k hS rfl rfl : xm_k h 182 = (3, 0))) (xs_r hS rfl) ?_
  refine xw_G (pc' := 10) (st' := [.int (xm_i h 201 0)]) rfl rfl (xkf (xs_k hS rfl rfl : xm_k h 201 = (8, 0))) ?_
  exact xr_i (inj := xji) rfl rfl rfl rfl hf hQ hS
def f_X11_tick  (h : xm_H) : Option (Int32 × xm_H) := (xl (xm_si h 302 4 (0 : Int32)) fun h1 => (some (xm_i h1 303 0, h1)))
theorem t_X11_tick {ρ : Nat} {δ : Nat} {h : xm_H} {w : Int32 × xm_H}  (hS : xS ρ δ h) (hf : f_X11_tick  h = some w) : xm_Rn xX 1 188 [.ref 302] h (xji w.1) w.2 ∧ xS ρ δ w.2 := by
  refine xt_mk (φ := fun h => xS ρ δ h) (M := xM_X11_tick) (ls := [some (.ref 302)]) rfl (Nat.le_of_ble_eq_true rfl) rfl (fun Q hQ => ?_)
  unfold f_X11_tick at hf
  refine xw_G (pc' := 1) (st' := [.ref 302]) rfl rfl trivial ?_
  refine xw_G (pc' := 2) (st' := [.int (0 : Int32), .ref 302]) rfl rfl trivial ?_
  refine xp_i rfl (xkf (xs_k hS rfl rfl : xm_k h 302 = (11, 0))) (Nat.le_of_ble_eq_true rfl) hf (fun h1 e2 hf => ?_)
  have hS := xS_si hS e2
  refine xw_G (pc' := 6) (st' := [.ref 302]) rfl rfl trivial ?_
  refine xw_gr rfl (xkf (xs_k hS rfl rfl : xm_k h1 302 = (11, 0))) (xs_r hS rfl) ?_
  refine xw_G (pc' := 10) (st' := [.int (0 : Int32), .ref 303]) rfl rfl trivial ?_
  refine xa_ld (t := 100) (τ := 0) (v := .int (xm_i h1 303 0)) rfl rfl (xkf (xs_k hS rfl rfl : xm_k h1 303 = (100, 2217))) (xkn (xs_k hS rfl rfl : xm_k h1 303 = (100, 2217))) (by decide : xin (0 : Int32) 2217) rfl ?_
  exact xr_i (inj := xji) rfl rfl rfl rfl hf hQ hS
def f_X10_requireUser (x0 : Int32) (h : xm_H) : Option ((Unit ⊕ Nat × Nat) × xm_H) := (xe (f_X10_requireRange x0 (0 : Int32) (15 : Int32) h) (fun v1 h2 => (some (.inl (), h2))) (fun q4 h5 => (some (.inr q4, h5))))
theorem t_X10_requireUser {ρ : Nat} {δ : Nat} {x0 : Int32} {h : xm_H} {w : (Unit ⊕ Nat × Nat) × xm_H}  (hS : xS ρ δ h) (hf : f_X10_requireUser x0 h = some w) : xm_Rn xX 2 129 [.int x0] h (xtv w.1) w.2 ∧ xS ρ δ w.2 := by
  refine xt_mk (φ := fun h => xS ρ δ h) (M := xM_X10_requireUser) (ls := [some (.int x0)]) rfl (Nat.le_of_ble_eq_true rfl) rfl (fun Q hQ => ?_)
  unfold f_X10_requireUser at hf
  refine xw_G (pc' := 1) (st' := [.int x0]) rfl rfl trivial ?_
  refine xw_G (pc' := 2) (st' := [.int (0 : Int32), .int x0]) rfl rfl trivial ?_
  refine xw_G (pc' := 4) (st' := [.int (15 : Int32), .int (0 : Int32), .int x0]) rfl rfl trivial ?_
  refine xe_e hf (fun v1 h2 e3 hf => ?_) (fun q4 h5 e3 hf => ?_)
  · refine xw_S (v := none) rfl (Nat.le_of_ble_eq_true rfl) (Nat.le_of_ble_eq_true rfl) (xm_Rn_le (Nat.le_of_ble_eq_true rfl) (t_X10_requireRange  hS e3).1) ?_
    have hS := (t_X10_requireRange  hS e3).2
    show xm_W _ _ _ 7 _ [] _
    exact xr_v (inj := xtv) rfl rfl hf hQ hS
  · refine xw_SX (x := q4) rfl (Nat.le_of_ble_eq_true rfl) (Nat.le_of_ble_eq_true rfl) (xm_Rn_le (Nat.le_of_ble_eq_true rfl) (t_X10_requireRange  hS e3).1) rfl ?_
    have hS := (t_X10_requireRange  hS e3).2
    exact xr_x (inj := xtv) rfl hf hQ hS
def f_X2_countRecents_2B (N : Nat) (ρ : Nat) (c1 : Int32) (k21 : xm_H → Option (Unit × xm_H)) (rec : Int32 → xm_H → Option (Unit × xm_H)) (c2 : Int32) (h : xm_H) : Option (Unit × xm_H) := (if c2 < (8 : Int32) then (if xin c2 8 then (xl (xm_si h 215 (Int32.toNatClampNeg c2) (0 : Int32)) fun h3 => (rec (c2 + (1 : Int32)) h3)) else none) else (k21  h))
def f_X2_countRecents_2 (N : Nat) (ρ : Nat) (c1 : Int32) (k21 : xm_H → Option (Unit × xm_H)) : Nat → Int32 → xm_H → Option (Unit × xm_H)
  | 0 => fun _ _ => none
  | n + 1 => fun c2 h => f_X2_countRecents_2B N ρ c1 k21 (f_X2_countRecents_2 N ρ c1 k21 n) c2 h
def f_X2_countRecents_23B (N : Nat) (ρ : Nat) (c1 : Int32) (rec : Int32 → xm_H → Option (Unit × xm_H)) (c2 : Int32) (h : xm_H) : Option (Unit × xm_H) := (if c2 < (xm_i h 201 2) then (if xin c2 400 then (if (xm_i h 211 (Int32.toNatClampNeg c2)) = c1 then (if xin (xm_i h 212 (Int32.toNatClampNeg c2)) 8 then (if ((xm_i h 201 0) - (xm_i h 210 (Int32.toNatClampNeg c2))) < (xm_i h (ρ + 10 + Int32.toNatClampNeg (xm_i h 212 (Int32.toNatClampNeg c2))) 4) then (xl (xm_si h 215 (Int32.toNatClampNeg (xm_i h 212 (Int32.toNatClampNeg c2))) ((xm_i h 215 (Int32.toNatClampNeg (xm_i h 212 (Int32.toNatClampNeg c2)))) + (1 : Int32))) fun h6 => (rec (c2 + (1 : Int32)) h6)) else (rec (c2 + (1 : Int32)) h)) else none) else (rec (c2 + (1 : Int32)) h)) else none) else (some ((), h)))
def f_X2_countRecents_23 (N : Nat) (ρ : Nat) (c1 : Int32) : Nat → Int32 → xm_H → Option (Unit × xm_H)
  | 0 => fun _ _ => none
  | n + 1 => fun c2 h => f_X2_countRecents_23B N ρ c1 (f_X2_countRecents_23 N ρ c1 n) c2 h
def f_X2_countRecents (N : Nat) (ρ : Nat) (x1 : Int32) (h : xm_H) : Option (Unit × xm_H) := (f_X2_countRecents_2 N ρ x1 (fun  (h1 : xm_H) => (f_X2_countRecents_23 N ρ x1 N (0 : Int32) h1)) N (0 : Int32) h)
theorem tl_X2_countRecents_2 {δ : Nat} {N : Nat} {ρ : Nat} {c1 : Int32} {k21 : xm_H → Option (Unit × xm_H)} {Q : xm_O → xm_H → Prop} {w : Unit × xm_H}  (hQ : xS ρ δ w.2 → Q (xjv w.1) w.2) (hk21 : ∀  (h : xm_H), xS ρ δ h → k21  h = some w → xm_W (xm_Rn xX 0) xM_X2_countRecents Q 21 [some (.ref 182), some (.int c1), none, none] [] h) : ∀ (n : Nat) (c2 : Int32) (h : xm_H), xS ρ δ h → f_X2_countRecents_2 N ρ c1 k21 n c2 h = some w → xm_W (xm_Rn xX 0) xM_X2_countRecents Q 2 [some (.ref 182), some (.int c1), some (.int c2), none] [] h := by
  intro n
  induction n with
  | zero =>
    intro c2 h hS hf
    exact (xn_e hf).elim
  | succ n ih =>
    intro c2 h hS hf
    replace hf : f_X2_countRecents_2B N ρ c1 k21 (f_X2_countRecents_2 N ρ c1 k21 n) c2 h = some w := hf
    unfold f_X2_countRecents_2B at hf
    refine xw_K (pc' := 3) (ls' := [some (.ref 182), some (.int c1), some (.int c2), none]) (st' := [.int c2]) rfl rfl trivial ?_
    refine xw_G (pc' := 5) (st' := [.int (8 : Int32), .int c2]) rfl rfl trivial ?_
    refine xj_ic_ge rfl hf (fun hc1 hf => ?_) (fun hc1 hf => ?_)
    · refine xw_G (pc' := 9) (st' := [.ref 182]) rfl rfl trivial ?_
      refine xw_gr rfl (xkf (xs_k hS rfl rfl : xm_k h 182 = (3, 0))) (xs_r hS rfl) ?_
      refine xw_G (pc' := 13) (st' := [.int c2, .ref 215]) rfl rfl trivial ?_
      refine xw_G (pc' := 14) (st' := [.int (0 : Int32), .int c2, .ref 215]) rfl rfl trivial ?_
      refine xg_e hf (fun hg2 hf => ?_)
      refine xa_i rfl (xkf (xs_k hS rfl rfl : xm_k h 215 = (100, 8))) (xkn (xs_k hS rfl rfl : xm_k h 215 = (100, 8))) hg2 (Nat.le_of_ble_eq_true rfl) hf (fun h3 e4 hf => ?_)
      have hS := xS_si hS e4
      refine xw_G (pc' := 18) (ls' := [some (.ref 182), some (.int c1), some (.int (c2 + (1 : Int32))), none]) (st' := []) rfl rfl (Nat.le_of_ble_eq_true rfl) ?_
      refine xw_G (pc' := 2) (st' := []) rfl rfl trivial ?_
      refine xw_M rfl rfl ?_
      exact ih _ _ hS hf
    · refine xw_M rfl rfl ?_
      exact hk21  _ hS hf
theorem tl_X2_countRecents_23 {δ : Nat} {N : Nat} {ρ : Nat} {c1 : Int32} {Q : xm_O → xm_H → Prop} {w : Unit × xm_H}  (hQ : xS ρ δ w.2 → Q (xjv w.1) w.2)  : ∀ (n : Nat) (c2 : Int32) (h : xm_H), xS ρ δ h → f_X2_countRecents_23 N ρ c1 n c2 h = some w → xm_W (xm_Rn xX 0) xM_X2_countRecents Q 23 [some (.ref 182), some (.int c1), some (.int c2), none] [] h := by
  intro n
  induction n with
  | zero =>
    intro c2 h hS hf
    exact (xn_e hf).elim
  | succ n ih =>
    intro c2 h hS hf
    replace hf : f_X2_countRecents_23B N ρ c1 (f_X2_countRecents_23 N ρ c1 n) c2 h = some w := hf
    unfold f_X2_countRecents_23B at hf
    refine xw_K (pc' := 24) (ls' := [some (.ref 182), some (.int c1), some (.int c2), none]) (st' := [.int c2]) rfl rfl trivial ?_
    refine xw_G (pc' := 25) (st' := [.ref 182, .int c2]) rfl rfl trivial ?_
    refine xw_gr rfl (xkf (xs_k hS rfl rfl : xm_k h 182 = (3, 0))) (xs_r hS rfl) ?_
    refine xw_G (pc' := 31) (st' := [.int (xm_i h 201 2), .int c2]) rfl rfl (xkf (xs_k hS rfl rfl : xm_k h 201 = (8, 0))) ?_
    refine xj_ic_ge rfl hf (fun hc1 hf => ?_) (fun hc1 hf => ?_)
    · refine xw_G (pc' := 35) (st' := [.ref 182]) rfl rfl trivial ?_
      refine xw_gr rfl (xkf (xs_k hS rfl rfl : xm_k h 182 = (3, 0))) (xs_r hS rfl) ?_
      refine xw_gr rfl (xkf (xs_k hS rfl rfl : xm_k h 209 = (5, 0))) (xs_r hS rfl) ?_
      refine xw_G (pc' := 42) (st' := [.int c2, .ref 212]) rfl rfl trivial ?_
      refine xg_e hf (fun hg2 hf => ?_)
      refine xa_ld (t := 100) (τ := 0) (v := .int (xm_i h 212 (Int32.toNatClampNeg c2))) rfl rfl (xkf (xs_k hS rfl rfl : xm_k h 212 = (100, 400))) (xkn (xs_k hS rfl rfl : xm_k h 212 = (100, 400))) hg2 rfl ?_
      refine xw_G (pc' := 44) (ls' := [some (.ref 182), some (.int c1), some (.int c2), some (.int (xm_i h 212 (Int32.toNatClampNeg c2)))]) (st' := []) rfl rfl (Nat.le_of_ble_eq_true rfl) ?_
      refine xw_G (pc' := 45) (st' := [.ref 182]) rfl rfl trivial ?_
      refine xw_gr rfl (xkf (xs_k hS rfl rfl : xm_k h 182 = (3, 0))) (xs_r hS rfl) ?_
      refine xw_gr rfl (xkf (xs_k hS rfl rfl : xm_k h 209 = (5, 0))) (xs_r hS rfl) ?_
      refine xw_G (pc' := 52) (st' := [.int c2, .ref 211]) rfl rfl trivial ?_
      refine xa_ld (t := 100) (τ := 0) (v := .int (xm_i h 211 (Int32.toNatClampNeg c2))) rfl rfl (xkf (xs_k hS rfl rfl : xm_k h 211 = (100, 400))) (xkn (xs_k hS rfl rfl : xm_k h 211 = (100, 400))) hg2 rfl ?_
      refine xw_G (pc' := 54) (st' := [.int c1, .int (xm_i h 211 (Int32.toNatClampNeg c2))]) rfl rfl trivial ?_
      refine xj_ic_ne rfl hf (fun hc3 hf => ?_) (fun hc3 hf => ?_)
      · refine xw_G (pc' := 58) (st' := [.ref 182]) rfl rfl trivial ?_
        refine xw_gr rfl (xkf (xs_k hS rfl rfl : xm_k h 182 = (3, 0))) (xs_r hS rfl) ?_
        refine xw_G (pc' := 64) (st' := [.int (xm_i h 201 0)]) rfl rfl (xkf (xs_k hS rfl rfl : xm_k h 201 = (8, 0))) ?_
        refine xw_G (pc' := 65) (st' := [.ref 182, .int (xm_i h 201 0)]) rfl rfl trivial ?_
        refine xw_gr rfl (xkf (xs_k hS rfl rfl : xm_k h 182 = (3, 0))) (xs_r hS rfl) ?_
        refine xw_gr rfl (xkf (xs_k hS rfl rfl : xm_k h 209 = (5, 0))) (xs_r hS rfl) ?_
        refine xw_G (pc' := 72) (st' := [.int c2, .ref 210, .int (xm_i h 201 0)]) rfl rfl trivial ?_
        refine xa_ld (t := 100) (τ := 0) (v := .int (xm_i h 210 (Int32.toNatClampNeg c2))) rfl rfl (xkf (xs_k hS rfl rfl : xm_k h 210 = (100, 400))) (xkn (xs_k hS rfl rfl : xm_k h 210 = (100, 400))) hg2 rfl ?_
        refine xw_G (pc' := 74) (st' := [.int ((xm_i h 201 0) - (xm_i h 210 (Int32.toNatClampNeg c2)))]) rfl rfl trivial ?_
        refine xw_G (pc' := 75) (st' := [.ref 182, .int ((xm_i h 201 0) - (xm_i h 210 (Int32.toNatClampNeg c2)))]) rfl rfl trivial ?_
        refine xw_gr rfl (xkf (xs_k hS rfl rfl : xm_k h 182 = (3, 0))) (xs_rho hS) ?_
        refine xw_gr rfl (xkf (xsR0 hS (xs_R hS))) (xsRr6 hS (xs_R hS)) ?_
        refine xw_G (pc' := 82) (st' := [.int (xm_i h 212 (Int32.toNatClampNeg c2)), .ref (ρ + 9), .int ((xm_i h 201 0) - (xm_i h 210 (Int32.toNatClampNeg c2)))]) rfl rfl trivial ?_
        refine xg_e hf (fun hg4 hf => ?_)
        refine xa_ar (b := (ρ + 10 + Int32.toNatClampNeg (xm_i h 212 (Int32.toNatClampNeg c2)))) rfl (xkf (xsR9 hS (xs_R hS))) (xkn (xsR9 hS (xs_R hS))) hg4 (xsCam hS (xs_R hS) hg4) ?_
        refine xw_G (pc' := 86) (st' := [.int (xm_i h (ρ + 10 + Int32.toNatClampNeg (xm_i h 212 (Int32.toNatClampNeg c2))) 4), .int ((xm_i h 201 0) - (xm_i h 210 (Int32.toNatClampNeg c2)))]) rfl rfl (xkf (xsC hS (xIsC_mk (j := (xm_i h 212 (Int32.toNatClampNeg c2))) (xs_R hS) hg4))) ?_
        refine xj_ic_ge rfl hf (fun hc5 hf => ?_) (fun hc5 hf => ?_)
        · refine xw_G (pc' := 90) (st' := [.ref 182]) rfl rfl trivial ?_
          refine xw_gr rfl (xkf (xs_k hS rfl rfl : xm_k h 182 = (3, 0))) (xs_r hS rfl) ?_
          refine xw_G (pc' := 94) (st' := [.int (xm_i h 212 (Int32.toNatClampNeg c2)), .ref 215]) rfl rfl trivial ?_
          refine xw_G (pc' := 95) (st' := [.int (xm_i h 212 (Int32.toNatClampNeg c2)), .ref 215, .int (xm_i h 212 (Int32.toNatClampNeg c2)), .ref 215]) rfl rfl ⟨rfl, rfl⟩ ?_
          refine xa_ld (t := 100) (τ := 0) (v := .int (xm_i h 215 (Int32.toNatClampNeg (xm_i h 212 (Int32.toNatClampNeg c2))))) rfl rfl (xkf (xs_k hS rfl rfl : xm_k h 215 = (100, 8))) (xkn (xs_k hS rfl rfl : xm_k h 215 = (100, 8))) hg4 rfl ?_
          refine xw_G (pc' := 97) (st' := [.int (1 : Int32), .int (xm_i h 215 (Int32.toNatClampNeg (xm_i h 212 (Int32.toNatClampNeg c2)))), .int (xm_i h 212 (Int32.toNatClampNeg c2)), .ref 215]) rfl rfl trivial ?_
          refine xw_G (pc' := 98) (st' := [.int ((xm_i h 215 (Int32.toNatClampNeg (xm_i h 212 (Int32.toNatClampNeg c2)))) + (1 : Int32)), .int (xm_i h 212 (Int32.toNatClampNeg c2)), .ref 215]) rfl rfl trivial ?_
          refine xa_i rfl (xkf (xs_k hS rfl rfl : xm_k h 215 = (100, 8))) (xkn (xs_k hS rfl rfl : xm_k h 215 = (100, 8))) hg4 (Nat.le_of_ble_eq_true rfl) hf (fun h6 e7 hf => ?_)
          have hS := xS_si hS e7
          refine xw_G (pc' := 102) (ls' := [some (.ref 182), some (.int c1), some (.int (c2 + (1 : Int32))), some (.int (xm_i h 212 (Int32.toNatClampNeg c2)))]) (st' := []) rfl rfl (Nat.le_of_ble_eq_true rfl) ?_
          refine xw_G (pc' := 23) (st' := []) rfl rfl trivial ?_
          refine xw_M rfl rfl ?_
          exact ih _ _ hS hf
        · refine xw_G (pc' := 102) (ls' := [some (.ref 182), some (.int c1), some (.int (c2 + (1 : Int32))), some (.int (xm_i h 212 (Int32.toNatClampNeg c2)))]) (st' := []) rfl rfl (Nat.le_of_ble_eq_true rfl) ?_
          refine xw_G (pc' := 23) (st' := []) rfl rfl trivial ?_
          refine xw_M rfl rfl ?_
          exact ih _ _ hS hf
      · refine xw_G (pc' := 102) (ls' := [some (.ref 182), some (.int c1), some (.int (c2 + (1 : Int32))), some (.int (xm_i h 212 (Int32.toNatClampNeg c2)))]) (st' := []) rfl rfl (Nat.le_of_ble_eq_true rfl) ?_
        refine xw_G (pc' := 23) (st' := []) rfl rfl trivial ?_
        refine xw_M rfl rfl ?_
        exact ih _ _ hS hf
    · exact xr_v (inj := xjv) rfl rfl hf hQ hS
theorem t_X2_countRecents {N : Nat} {ρ : Nat} {δ : Nat} {x1 : Int32} {h : xm_H} {w : Unit × xm_H}  (hS : xS ρ δ h) (hf : f_X2_countRecents N ρ x1 h = some w) : xm_Rn xX 1 13 [.ref 182, .int x1] h (xjv w.1) w.2 ∧ xS ρ δ w.2 := by
  refine xt_mk (φ := fun h => xS ρ δ h) (M := xM_X2_countRecents) (ls := [some (.ref 182), some (.int x1), none, none]) rfl (Nat.le_of_ble_eq_true rfl) rfl (fun Q hQ => ?_)
  unfold f_X2_countRecents at hf
  refine xw_G (pc' := 1) (st' := [.int (0 : Int32)]) rfl rfl trivial ?_
  refine xw_G (pc' := 2) (ls' := [some (.ref 182), some (.int x1), some (.int (0 : Int32)), none]) (st' := []) rfl rfl (Nat.le_of_ble_eq_true rfl) ?_
  refine xw_M rfl rfl ?_
  refine tl_X2_countRecents_2  hQ (fun  h1 hS hf => ?_) _ _ _ hS hf
  refine xw_K (pc' := 22) (ls' := [some (.ref 182), some (.int x1), none, none]) (st' := [.int (0 : Int32)]) rfl rfl trivial ?_
  refine xw_G (pc' := 23) (ls' := [some (.ref 182), some (.int x1), some (.int (0 : Int32)), none]) (st' := []) rfl rfl (Nat.le_of_ble_eq_true rfl) ?_
  refine xw_M rfl rfl ?_
  refine tl_X2_countRecents_23  hQ  _ _ _ hS hf
def f_X2_moneyLeft (x1 : Int32) (h : xm_H) : Option (Int32 × xm_H) := (if xin x1 8 then (some ((xm_i h 204 (Int32.toNatClampNeg x1)) - (xm_i h 206 (Int32.toNatClampNeg x1)), h)) else none)
theorem t_X2_moneyLeft {ρ : Nat} {δ : Nat} {x1 : Int32} {h : xm_H} {w : Int32 × xm_H}  (hS : xS ρ δ h) (hf : f_X2_moneyLeft x1 h = some w) : xm_Rn xX 1 10 [.ref 182, .int x1] h (xji w.1) w.2 ∧ xS ρ δ w.2 := by
  refine xt_mk (φ := fun h => xS ρ δ h) (M := xM_X2_moneyLeft) (ls := [some (.ref 182), some (.int x1)]) rfl (Nat.le_of_ble_eq_true rfl) rfl (fun Q hQ => ?_)
  unfold f_X2_moneyLeft at hf
  refine xw_G (pc' := 1) (st' := [.ref 182]) rfl rfl trivial ?_
  refine xw_gr rfl (xkf (xs_k hS rfl rfl : xm_k h 182 = (3, 0))) (xs_r hS rfl) ?_
  refine xw_gr rfl (xkf (xs_k hS rfl rfl : xm_k h 201 = (8, 0))) (xs_r hS rfl) ?_
  refine xw_G (pc' := 8) (st' := [.int x1, .ref 204]) rfl rfl trivial ?_
  refine xg_e hf (fun hg1 hf => ?_)
  refine xa_ld (t := 100) (τ := 0) (v := .int (xm_i h 204 (Int32.toNatClampNeg x1))) rfl rfl (xkf (xs_k hS rfl rfl : xm_k h 204 = (100, 8))) (xkn (xs_k hS rfl rfl : xm_k h 204 = (100, 8))) hg1 rfl ?_
  refine xw_G (pc' := 10) (st' := [.ref 182, .int (xm_i h 204 (Int32.toNatClampNeg x1))]) rfl rfl trivial ?_
  refine xw_gr rfl (xkf (xs_k hS rfl rfl : xm_k h 182 = (3, 0))) (xs_r hS rfl) ?_
  refine xw_gr rfl (xkf (xs_k hS rfl rfl : xm_k h 201 = (8, 0))) (xs_r hS rfl) ?_
  refine xw_G (pc' := 17) (st' := [.int x1, .ref 206, .int (xm_i h 204 (Int32.toNatClampNeg x1))]) rfl rfl trivial ?_
  refine xa_ld (t := 100) (τ := 0) (v := .int (xm_i h 206 (Int32.toNatClampNeg x1))) rfl rfl (xkf (xs_k hS rfl rfl : xm_k h 206 = (100, 8))) (xkn (xs_k hS rfl rfl : xm_k h 206 = (100, 8))) hg1 rfl ?_
  refine xw_G (pc' := 19) (st' := [.int ((xm_i h 204 (Int32.toNatClampNeg x1)) - (xm_i h 206 (Int32.toNatClampNeg x1)))]) rfl rfl trivial ?_
  exact xr_i (inj := xji) rfl rfl rfl rfl hf hQ hS
def f_X2_reasonAgainst (ρ : Nat) (x1 : Int32) (x2 : Int32) (x3 : Int32) (x4 : Int32) (h : xm_H) : Option (Int32 × xm_H) := (if xin x1 8 then (if (xm_i h 208 (Int32.toNatClampNeg x1)) = 0 then (if (xm_i h (ρ + 10 + Int32.toNatClampNeg x1) 5) = (-1 : Int32) then (xb (f_X2_moneyLeft x1 h) fun v4 h5 => (if v4 < x3 then (some ((3 : Int32), h5)) else (if (xm_i h5 215 (Int32.toNatClampNeg x1)) < (xm_i h5 (ρ + 10 + Int32.toNatClampNeg x1) 3) then (if (xm_i h5 205 (Int32.toNatClampNeg x1)) = (2 : Int32) then (xb (f_X2_planned ρ x1 h5) fun v10 h11 => (if (xm_i h5 206 (Int32.toNatClampNeg x1)) < v10 then (if x3 < x4 then (some ((6 : Int32), h11)) else (some ((0 : Int32), h11))) else (some ((5 : Int32), h11)))) else (if x3 < x4 then (some ((6 : Int32), h5)) else (some ((0 : Int32), h5)))) else (some ((4 : Int32), h5))))) else (if (xm_i h (ρ + 10 + Int32.toNatClampNeg x1) 5) = x2 then (xb (f_X2_moneyLeft x1 h) fun v17 h18 => (if v17 < x3 then (some ((3 : Int32), h18)) else (if (xm_i h18 215 (Int32.toNatClampNeg x1)) < (xm_i h18 (ρ + 10 + Int32.toNatClampNeg x1) 3) then (if (xm_i h18 205 (Int32.toNatClampNeg x1)) = (2 : Int32) then (xb (f_X2_planned ρ x1 h18) fun v23 h24 => (if (xm_i h18 206 (Int32.toNatClampNeg x1)) < v23 then (if x3 < x4 then (some ((6 : Int32), h24)) else (some ((0 : Int32), h24))) else (some ((5 : Int32), h24)))) else (if x3 < x4 then (some ((6 : Int32), h18)) else (some ((0 : Int32), h18)))) else (some ((4 : Int32), h18))))) else (some ((2 : Int32), h)))) else (some ((1 : Int32), h))) else none)
theorem t_X2_reasonAgainst {ρ : Nat} {δ : Nat} {x1 : Int32} {x2 : Int32} {x3 : Int32} {x4 : Int32} {h : xm_H} {w : Int32 × xm_H}  (hS : xS ρ δ h) (hf : f_X2_reasonAgainst ρ x1 x2 x3 x4 h = some w) : xm_Rn xX 2 14 [.ref 182, .int x1, .int x2, .int x3, .int x4] h (xji w.1) w.2 ∧ xS ρ δ w.2 := by
  refine xt_mk (φ := fun h => xS ρ δ h) (M := xM_X2_reasonAgainst) (ls := [some (.ref 182), some (.int x1), some (.int x2), some (.int x3), some (.int x4), none]) rfl (Nat.le_of_ble_eq_true rfl) rfl (fun Q hQ => ?_)
  unfold f_X2_reasonAgainst at hf
  refine xw_G (pc' := 1) (st' := [.ref 182]) rfl rfl trivial ?_
  refine xw_gr rfl (xkf (xs_k hS rfl rfl : xm_k h 182 = (3, 0))) (xs_rho hS) ?_
  refine xw_gr rfl (xkf (xsR0 hS (xs_R hS))) (xsRr6 hS (xs_R hS)) ?_
  refine xw_G (pc' := 8) (st' := [.int x1, .ref (ρ + 9)]) rfl rfl trivial ?_
  refine xg_e hf (fun hg1 hf => ?_)
  refine xa_ar (b := (ρ + 10 + Int32.toNatClampNeg x1)) rfl (xkf (xsR9 hS (xs_R hS))) (xkn (xsR9 hS (xs_R hS))) hg1 (xsCam hS (xs_R hS) hg1) ?_
  refine xw_G (pc' := 11) (ls' := [some (.ref 182), some (.int x1), some (.int x2), some (.int x3), some (.int x4), some (.ref (ρ + 10 + Int32.toNatClampNeg x1))]) (st' := []) rfl rfl (Nat.le_of_ble_eq_true rfl) ?_
  refine xw_G (pc' := 12) (st' := [.ref 182]) rfl rfl trivial ?_
  refine xw_gr rfl (xkf (xs_k hS rfl rfl : xm_k h 182 = (3, 0))) (xs_r hS rfl) ?_
  refine xw_gr rfl (xkf (xs_k hS rfl rfl : xm_k h 201 = (8, 0))) (xs_r hS rfl) ?_
  refine xw_G (pc' := 19) (st' := [.int x1, .ref 208]) rfl rfl trivial ?_
  refine xa_ld (t := 101) (τ := 0) (v := .int (xm_i h 208 (Int32.toNatClampNeg x1))) rfl rfl (xkf (xs_k hS rfl rfl : xm_k h 208 = (101, 8))) (xkn (xs_k hS rfl rfl : xm_k h 208 = (101, 8))) hg1 rfl ?_
  refine xj_if_eq rfl hf (fun hc2 hf => ?_) (fun hc2 hf => ?_)
  · refine xw_G (pc' := 27) (st' := [.ref (ρ + 10 + Int32.toNatClampNeg x1)]) rfl rfl trivial ?_
    refine xw_G (pc' := 30) (st' := [.int (xm_i h (ρ + 10 + Int32.toNatClampNeg x1) 5)]) rfl rfl (xkf (xsC hS (xIsC_mk (j := x1) (xs_R hS) hg1))) ?_
    refine xw_G (pc' := 31) (st' := [.int (-1 : Int32), .int (xm_i h (ρ + 10 + Int32.toNatClampNeg x1) 5)]) rfl rfl trivial ?_
    refine xj_ic_eq rfl hf (fun hc3 hf => ?_) (fun hc3 hf => ?_)
    · refine xw_G (pc' := 46) (st' := [.ref 182]) rfl rfl trivial ?_
      refine xw_G (pc' := 47) (st' := [.int x1, .ref 182]) rfl rfl trivial ?_
      refine xb_e hf (fun v4 h5 e6 hf => ?_)
      refine xw_V (v := some (.int v4)) rfl rfl (xkf (xs_k hS rfl rfl : xm_k h 182 = (3, 0))) (Nat.le_of_ble_eq_true rfl) (Nat.le_of_ble_eq_true rfl) (xm_Rn_le (Nat.le_of_ble_eq_true rfl) (t_X2_moneyLeft  hS e6).1) ?_
      have hS := (t_X2_moneyLeft  hS e6).2
      show xm_W _ _ _ 50 _ [.int v4] _
      refine xw_G (pc' := 51) (st' := [.int x3, .int v4]) rfl rfl trivial ?_
      refine xj_ic_ge rfl hf (fun hc7 hf => ?_) (fun hc7 hf => ?_)
      · refine xw_G (pc' := 55) (st' := [.int (3 : Int32)]) rfl rfl trivial ?_
        exact xr_i (inj := xji) rfl rfl rfl rfl hf hQ hS
      · refine xw_G (pc' := 57) (st' := [.ref 182]) rfl rfl trivial ?_
        refine xw_gr rfl (xkf (xs_k hS rfl rfl : xm_k h5 182 = (3, 0))) (xs_r hS rfl) ?_
        refine xw_G (pc' := 61) (st' := [.int x1, .ref 215]) rfl rfl trivial ?_
        refine xa_ld (t := 100) (τ := 0) (v := .int (xm_i h5 215 (Int32.toNatClampNeg x1))) rfl rfl (xkf (xs_k hS rfl rfl : xm_k h5 215 = (100, 8))) (xkn (xs_k hS rfl rfl : xm_k h5 215 = (100, 8))) hg1 rfl ?_
        refine xw_G (pc' := 64) (st' := [.ref (ρ + 10 + Int32.toNatClampNeg x1), .int (xm_i h5 215 (Int32.toNatClampNeg x1))]) rfl rfl trivial ?_
        refine xw_G (pc' := 67) (st' := [.int (xm_i h5 (ρ + 10 + Int32.toNatClampNeg x1) 3), .int (xm_i h5 215 (Int32.toNatClampNeg x1))]) rfl rfl (xkf (xsC hS (xIsC_mk (j := x1) (xs_R hS) hg1))) ?_
        refine xj_ic_lt rfl hf (fun hc8 hf => ?_) (fun hc8 hf => ?_)
        · refine xw_G (pc' := 73) (st' := [.ref 182]) rfl rfl trivial ?_
          refine xw_gr rfl (xkf (xs_k hS rfl rfl : xm_k h5 182 = (3, 0))) (xs_r hS rfl) ?_
          refine xw_gr rfl (xkf (xs_k hS rfl rfl : xm_k h5 201 = (8, 0))) (xs_r hS rfl) ?_
          refine xw_G (pc' := 80) (st' := [.int x1, .ref 205]) rfl rfl trivial ?_
          refine xa_ld (t := 100) (τ := 0) (v := .int (xm_i h5 205 (Int32.toNatClampNeg x1))) rfl rfl (xkf (xs_k hS rfl rfl : xm_k h5 205 = (100, 8))) (xkn (xs_k hS rfl rfl : xm_k h5 205 = (100, 8))) hg1 rfl ?_
          refine xw_G (pc' := 82) (st' := [.int (2 : Int32), .int (xm_i h5 205 (Int32.toNatClampNeg x1))]) rfl rfl trivial ?_
          refine xj_ic_ne rfl hf (fun hc9 hf => ?_) (fun hc9 hf => ?_)
          · refine xw_G (pc' := 86) (st' := [.ref 182]) rfl rfl trivial ?_
            refine xw_gr rfl (xkf (xs_k hS rfl rfl : xm_k h5 182 = (3, 0))) (xs_r hS rfl) ?_
            refine xw_gr rfl (xkf (xs_k hS rfl rfl : xm_k h5 201 = (8, 0))) (xs_r hS rfl) ?_
            refine xw_G (pc' := 93) (st' := [.int x1, .ref 206]) rfl rfl trivial ?_
            refine xa_ld (t := 100) (τ := 0) (v := .int (xm_i h5 206 (Int32.toNatClampNeg x1))) rfl rfl (xkf (xs_k hS rfl rfl : xm_k h5 206 = (100, 8))) (xkn (xs_k hS rfl rfl : xm_k h5 206 = (100, 8))) hg1 rfl ?_
            refine xw_G (pc' := 95) (st' := [.ref 182, .int (xm_i h5 206 (Int32.toNatClampNeg x1))]) rfl rfl trivial ?_
            refine xw_G (pc' := 96) (st' := [.int x1, .ref 182, .int (xm_i h5 206 (Int32.toNatClampNeg x1))]) rfl rfl trivial ?_
            refine xb_e hf (fun v10 h11 e12 hf => ?_)
            refine xw_V (v := some (.int v10)) rfl rfl (xkf (xs_k hS rfl rfl : xm_k h5 182 = (3, 0))) (Nat.le_of_ble_eq_true rfl) (Nat.le_of_ble_eq_true rfl) (xm_Rn_le (Nat.le_of_ble_eq_true rfl) (t_X2_planned  hS e12).1) ?_
            have hS := (t_X2_planned  hS e12).2
            show xm_W _ _ _ 99 _ [.int v10, .int (xm_i h5 206 (Int32.toNatClampNeg x1))] _
            refine xj_ic_lt rfl hf (fun hc13 hf => ?_) (fun hc13 hf => ?_)
            · refine xw_G (pc' := 105) (st' := [.int x3]) rfl rfl trivial ?_
              refine xw_G (pc' := 107) (st' := [.int x4, .int x3]) rfl rfl trivial ?_
              refine xj_ic_ge rfl hf (fun hc14 hf => ?_) (fun hc14 hf => ?_)
              · refine xw_G (pc' := 112) (st' := [.int (6 : Int32)]) rfl rfl trivial ?_
                refine xw_G (pc' := 116) (st' := [.int (6 : Int32)]) rfl rfl trivial ?_
                exact xr_i (inj := xji) rfl rfl rfl rfl hf hQ hS
              · refine xw_G (pc' := 116) (st' := [.int (0 : Int32)]) rfl rfl trivial ?_
                exact xr_i (inj := xji) rfl rfl rfl rfl hf hQ hS
            · refine xw_G (pc' := 103) (st' := [.int (5 : Int32)]) rfl rfl trivial ?_
              exact xr_i (inj := xji) rfl rfl rfl rfl hf hQ hS
          · refine xw_G (pc' := 105) (st' := [.int x3]) rfl rfl trivial ?_
            refine xw_G (pc' := 107) (st' := [.int x4, .int x3]) rfl rfl trivial ?_
            refine xj_ic_ge rfl hf (fun hc15 hf => ?_) (fun hc15 hf => ?_)
            · refine xw_G (pc' := 112) (st' := [.int (6 : Int32)]) rfl rfl trivial ?_
              refine xw_G (pc' := 116) (st' := [.int (6 : Int32)]) rfl rfl trivial ?_
              exact xr_i (inj := xji) rfl rfl rfl rfl hf hQ hS
            · refine xw_G (pc' := 116) (st' := [.int (0 : Int32)]) rfl rfl trivial ?_
              exact xr_i (inj := xji) rfl rfl rfl rfl hf hQ hS
        · refine xw_G (pc' := 71) (st' := [.int (4 : Int32)]) rfl rfl trivial ?_
          exact xr_i (inj := xji) rfl rfl rfl rfl hf hQ hS
    · refine xw_G (pc' := 36) (st' := [.ref (ρ + 10 + Int32.toNatClampNeg x1)]) rfl rfl trivial ?_
      refine xw_G (pc' := 39) (st' := [.int (xm_i h (ρ + 10 + Int32.toNatClampNeg x1) 5)]) rfl rfl (xkf (xsC hS (xIsC_mk (j := x1) (xs_R hS) hg1))) ?_
      refine xw_G (pc' := 40) (st' := [.int x2, .int (xm_i h (ρ + 10 + Int32.toNatClampNeg x1) 5)]) rfl rfl trivial ?_
      refine xj_ic_eq rfl hf (fun hc16 hf => ?_) (fun hc16 hf => ?_)
      · refine xw_G (pc' := 46) (st' := [.ref 182]) rfl rfl trivial ?_
        refine xw_G (pc' := 47) (st' := [.int x1, .ref 182]) rfl rfl trivial ?_
        refine xb_e hf (fun v17 h18 e19 hf => ?_)
        refine xw_V (v := some (.int v17)) rfl rfl (xkf (xs_k hS rfl rfl : xm_k h 182 = (3, 0))) (Nat.le_of_ble_eq_true rfl) (Nat.le_of_ble_eq_true rfl) (xm_Rn_le (Nat.le_of_ble_eq_true rfl) (t_X2_moneyLeft  hS e19).1) ?_
        have hS := (t_X2_moneyLeft  hS e19).2
        show xm_W _ _ _ 50 _ [.int v17] _
        refine xw_G (pc' := 51) (st' := [.int x3, .int v17]) rfl rfl trivial ?_
        refine xj_ic_ge rfl hf (fun hc20 hf => ?_) (fun hc20 hf => ?_)
        · refine xw_G (pc' := 55) (st' := [.int (3 : Int32)]) rfl rfl trivial ?_
          exact xr_i (inj := xji) rfl rfl rfl rfl hf hQ hS
        · refine xw_G (pc' := 57) (st' := [.ref 182]) rfl rfl trivial ?_
          refine xw_gr rfl (xkf (xs_k hS rfl rfl : xm_k h18 182 = (3, 0))) (xs_r hS rfl) ?_
          refine xw_G (pc' := 61) (st' := [.int x1, .ref 215]) rfl rfl trivial ?_
          refine xa_ld (t := 100) (τ := 0) (v := .int (xm_i h18 215 (Int32.toNatClampNeg x1))) rfl rfl (xkf (xs_k hS rfl rfl : xm_k h18 215 = (100, 8))) (xkn (xs_k hS rfl rfl : xm_k h18 215 = (100, 8))) hg1 rfl ?_
          refine xw_G (pc' := 64) (st' := [.ref (ρ + 10 + Int32.toNatClampNeg x1), .int (xm_i h18 215 (Int32.toNatClampNeg x1))]) rfl rfl trivial ?_
          refine xw_G (pc' := 67) (st' := [.int (xm_i h18 (ρ + 10 + Int32.toNatClampNeg x1) 3), .int (xm_i h18 215 (Int32.toNatClampNeg x1))]) rfl rfl (xkf (xsC hS (xIsC_mk (j := x1) (xs_R hS) hg1))) ?_
          refine xj_ic_lt rfl hf (fun hc21 hf => ?_) (fun hc21 hf => ?_)
          · refine xw_G (pc' := 73) (st' := [.ref 182]) rfl rfl trivial ?_
            refine xw_gr rfl (xkf (xs_k hS rfl rfl : xm_k h18 182 = (3, 0))) (xs_r hS rfl) ?_
            refine xw_gr rfl (xkf (xs_k hS rfl rfl : xm_k h18 201 = (8, 0))) (xs_r hS rfl) ?_
            refine xw_G (pc' := 80) (st' := [.int x1, .ref 205]) rfl rfl trivial ?_
            refine xa_ld (t := 100) (τ := 0) (v := .int (xm_i h18 205 (Int32.toNatClampNeg x1))) rfl rfl (xkf (xs_k hS rfl rfl : xm_k h18 205 = (100, 8))) (xkn (xs_k hS rfl rfl : xm_k h18 205 = (100, 8))) hg1 rfl ?_
            refine xw_G (pc' := 82) (st' := [.int (2 : Int32), .int (xm_i h18 205 (Int32.toNatClampNeg x1))]) rfl rfl trivial ?_
            refine xj_ic_ne rfl hf (fun hc22 hf => ?_) (fun hc22 hf => ?_)
            · refine xw_G (pc' := 86) (st' := [.ref 182]) rfl rfl trivial ?_
              refine xw_gr rfl (xkf (xs_k hS rfl rfl : xm_k h18 182 = (3, 0))) (xs_r hS rfl) ?_
              refine xw_gr rfl (xkf (xs_k hS rfl rfl : xm_k h18 201 = (8, 0))) (xs_r hS rfl) ?_
              refine xw_G (pc' := 93) (st' := [.int x1, .ref 206]) rfl rfl trivial ?_
              refine xa_ld (t := 100) (τ := 0) (v := .int (xm_i h18 206 (Int32.toNatClampNeg x1))) rfl rfl (xkf (xs_k hS rfl rfl : xm_k h18 206 = (100, 8))) (xkn (xs_k hS rfl rfl : xm_k h18 206 = (100, 8))) hg1 rfl ?_
              refine xw_G (pc' := 95) (st' := [.ref 182, .int (xm_i h18 206 (Int32.toNatClampNeg x1))]) rfl rfl trivial ?_
              refine xw_G (pc' := 96) (st' := [.int x1, .ref 182, .int (xm_i h18 206 (Int32.toNatClampNeg x1))]) rfl rfl trivial ?_
              refine xb_e hf (fun v23 h24 e25 hf => ?_)
              refine xw_V (v := some (.int v23)) rfl rfl (xkf (xs_k hS rfl rfl : xm_k h18 182 = (3, 0))) (Nat.le_of_ble_eq_true rfl) (Nat.le_of_ble_eq_true rfl) (xm_Rn_le (Nat.le_of_ble_eq_true rfl) (t_X2_planned  hS e25).1) ?_
              have hS := (t_X2_planned  hS e25).2
              show xm_W _ _ _ 99 _ [.int v23, .int (xm_i h18 206 (Int32.toNatClampNeg x1))] _
              refine xj_ic_lt rfl hf (fun hc26 hf => ?_) (fun hc26 hf => ?_)
              · refine xw_G (pc' := 105) (st' := [.int x3]) rfl rfl trivial ?_
                refine xw_G (pc' := 107) (st' := [.int x4, .int x3]) rfl rfl trivial ?_
                refine xj_ic_ge rfl hf (fun hc27 hf => ?_) (fun hc27 hf => ?_)
                · refine xw_G (pc' := 112) (st' := [.int (6 : Int32)]) rfl rfl trivial ?_
                  refine xw_G (pc' := 116) (st' := [.int (6 : Int32)]) rfl rfl trivial ?_
                  exact xr_i (inj := xji) rfl rfl rfl rfl hf hQ hS
                · refine xw_G (pc' := 116) (st' := [.int (0 : Int32)]) rfl rfl trivial ?_
                  exact xr_i (inj := xji) rfl rfl rfl rfl hf hQ hS
              · refine xw_G (pc' := 103) (st' := [.int (5 : Int32)]) rfl rfl trivial ?_
                exact xr_i (inj := xji) rfl rfl rfl rfl hf hQ hS
            · refine xw_G (pc' := 105) (st' := [.int x3]) rfl rfl trivial ?_
              refine xw_G (pc' := 107) (st' := [.int x4, .int x3]) rfl rfl trivial ?_
              refine xj_ic_ge rfl hf (fun hc28 hf => ?_) (fun hc28 hf => ?_)
              · refine xw_G (pc' := 112) (st' := [.int (6 : Int32)]) rfl rfl trivial ?_
                refine xw_G (pc' := 116) (st' := [.int (6 : Int32)]) rfl rfl trivial ?_
                exact xr_i (inj := xji) rfl rfl rfl rfl hf hQ hS
              · refine xw_G (pc' := 116) (st' := [.int (0 : Int32)]) rfl rfl trivial ?_
                exact xr_i (inj := xji) rfl rfl rfl rfl hf hQ hS
          · refine xw_G (pc' := 71) (st' := [.int (4 : Int32)]) rfl rfl trivial ?_
            exact xr_i (inj := xji) rfl rfl rfl rfl hf hQ hS
      · refine xw_G (pc' := 44) (st' := [.int (2 : Int32)]) rfl rfl trivial ?_
        exact xr_i (inj := xji) rfl rfl rfl rfl hf hQ hS
  · refine xw_G (pc' := 24) (st' := [.int (1 : Int32)]) rfl rfl trivial ?_
    exact xr_i (inj := xji) rfl rfl rfl rfl hf hQ hS
def f_X10_refusal (N : Nat) (ρ : Nat) (x1 : Int32) (x2 : Int32) (x3 : Int32) (h : xm_H) : Option ((Int32 ⊕ Nat × Nat) × xm_H) := (xe (f_X10_requireCampaign ρ x1 h) (fun v1 h2 => (xe (f_X10_requireTag ρ x3 h2) (fun v4 h5 => (xe (f_X10_requireUser x2 h5) (fun v7 h8 => (xb (f_X2_countRecents N ρ x2 h8) fun v10 h11 => (xb (f_X2_pacedBid x1 h11) fun v13 h14 => (if xin x3 6 then (xb (f_X2_reasonAgainst ρ x1 x3 v13 (xm_i h14 202 (Int32.toNatClampNeg x3)) h14) fun v17 h18 => (some (.inl v17, h18))) else none)))) (fun q20 h21 => (some (.inr q20, h21))))) (fun q23 h24 => (some (.inr q23, h24))))) (fun q26 h27 => (some (.inr q26, h27))))
theorem t_X10_refusal {N : Nat} {ρ : Nat} {δ : Nat} {x1 : Int32} {x2 : Int32} {x3 : Int32} {h : xm_H} {w : (Int32 ⊕ Nat × Nat) × xm_H}  (hS : xS ρ δ h) (hf : f_X10_refusal N ρ x1 x2 x3 h = some w) : xm_Rn xX 3 89 [.ref 160, .int x1, .int x2, .int x3] h (xti w.1) w.2 ∧ xS ρ δ w.2 := by
  refine xt_mk (φ := fun h => xS ρ δ h) (M := xM_X10_refusal) (ls := [some (.ref 160), some (.int x1), some (.int x2), some (.int x3)]) rfl (Nat.le_of_ble_eq_true rfl) rfl (fun Q hQ => ?_)
  unfold f_X10_refusal at hf
  refine xw_G (pc' := 1) (st' := [.ref 160]) rfl rfl trivial ?_
  refine xw_G (pc' := 2) (st' := [.int x1, .ref 160]) rfl rfl trivial ?_
  refine xe_e hf (fun v1 h2 e3 hf => ?_) (fun q26 h27 e3 hf => ?_)
  · refine xw_V (v := none) rfl rfl (xkf (xs_k hS rfl rfl : xm_k h 160 = (0, 0))) (Nat.le_of_ble_eq_true rfl) (Nat.le_of_ble_eq_true rfl) (xm_Rn_le (Nat.le_of_ble_eq_true rfl) (t_X10_requireCampaign  hS e3).1) ?_
    have hS := (t_X10_requireCampaign  hS e3).2
    show xm_W _ _ _ 5 _ [] _
    refine xw_G (pc' := 6) (st' := [.ref 160]) rfl rfl trivial ?_
    refine xw_G (pc' := 7) (st' := [.int x3, .ref 160]) rfl rfl trivial ?_
    refine xe_e hf (fun v4 h5 e6 hf => ?_) (fun q23 h24 e6 hf => ?_)
    · refine xw_V (v := none) rfl rfl (xkf (xs_k hS rfl rfl : xm_k h2 160 = (0, 0))) (Nat.le_of_ble_eq_true rfl) (Nat.le_of_ble_eq_true rfl) (xm_Rn_le (Nat.le_of_ble_eq_true rfl) (t_X10_requireTag  hS e6).1) ?_
      have hS := (t_X10_requireTag  hS e6).2
      show xm_W _ _ _ 10 _ [] _
      refine xw_G (pc' := 11) (st' := [.int x2]) rfl rfl trivial ?_
      refine xe_e hf (fun v7 h8 e9 hf => ?_) (fun q20 h21 e9 hf => ?_)
      · refine xw_S (v := none) rfl (Nat.le_of_ble_eq_true rfl) (Nat.le_of_ble_eq_true rfl) (xm_Rn_le (Nat.le_of_ble_eq_true rfl) (t_X10_requireUser  hS e9).1) ?_
        have hS := (t_X10_requireUser  hS e9).2
        show xm_W _ _ _ 14 _ [] _
        refine xw_G (pc' := 15) (st' := [.ref 160]) rfl rfl trivial ?_
        refine xw_gr rfl (xkf (xs_k hS rfl rfl : xm_k h8 160 = (0, 0))) (xs_r hS rfl) ?_
        refine xw_G (pc' := 19) (st' := [.int x2, .ref 182]) rfl rfl trivial ?_
        refine xb_e hf (fun v10 h11 e12 hf => ?_)
        refine xw_V (v := none) rfl rfl (xkf (xs_k hS rfl rfl : xm_k h8 182 = (3, 0))) (Nat.le_of_ble_eq_true rfl) (Nat.le_of_ble_eq_true rfl) (xm_Rn_le (Nat.le_of_ble_eq_true rfl) (t_X2_countRecents  hS e12).1) ?_
        have hS := (t_X2_countRecents  hS e12).2
        show xm_W _ _ _ 22 _ [] _
        refine xw_G (pc' := 23) (st' := [.ref 160]) rfl rfl trivial ?_
        refine xw_gr rfl (xkf (xs_k hS rfl rfl : xm_k h11 160 = (0, 0))) (xs_r hS rfl) ?_
        refine xw_G (pc' := 27) (st' := [.int x1, .ref 182]) rfl rfl trivial ?_
        refine xw_G (pc' := 28) (st' := [.int x3, .int x1, .ref 182]) rfl rfl trivial ?_
        refine xw_G (pc' := 29) (st' := [.ref 160, .int x3, .int x1, .ref 182]) rfl rfl trivial ?_
        refine xw_gr rfl (xkf (xs_k hS rfl rfl : xm_k h11 160 = (0, 0))) (xs_r hS rfl) ?_
        refine xw_G (pc' := 33) (st' := [.int x1, .ref 182, .int x3, .int x1, .ref 182]) rfl rfl trivial ?_
        refine xb_e hf (fun v13 h14 e15 hf => ?_)
        refine xw_V (v := some (.int v13)) rfl rfl (xkf (xs_k hS rfl rfl : xm_k h11 182 = (3, 0))) (Nat.le_of_ble_eq_true rfl) (Nat.le_of_ble_eq_true rfl) (xm_Rn_le (Nat.le_of_ble_eq_true rfl) (t_X2_pacedBid  hS e15).1) ?_
        have hS := (t_X2_pacedBid  hS e15).2
        show xm_W _ _ _ 36 _ [.int v13, .int x3, .int x1, .ref 182] _
        refine xw_G (pc' := 37) (st' := [.ref 160, .int v13, .int x3, .int x1, .ref 182]) rfl rfl trivial ?_
        refine xw_gr rfl (xkf (xs_k hS rfl rfl : xm_k h14 160 = (0, 0))) (xs_r hS rfl) ?_
        refine xw_gr rfl (xkf (xs_k hS rfl rfl : xm_k h14 182 = (3, 0))) (xs_r hS rfl) ?_
        refine xw_gr rfl (xkf (xs_k hS rfl rfl : xm_k h14 201 = (8, 0))) (xs_r hS rfl) ?_
        refine xw_G (pc' := 47) (st' := [.int x3, .ref 202, .int v13, .int x3, .int x1, .ref 182]) rfl rfl trivial ?_
        refine xg_e hf (fun hg16 hf => ?_)
        refine xa_ld (t := 100) (τ := 0) (v := .int (xm_i h14 202 (Int32.toNatClampNeg x3))) rfl rfl (xkf (xs_k hS rfl rfl : xm_k h14 202 = (100, 6))) (xkn (xs_k hS rfl rfl : xm_k h14 202 = (100, 6))) hg16 rfl ?_
        refine xb_e hf (fun v17 h18 e19 hf => ?_)
        refine xw_V (v := some (.int v17)) rfl rfl (xkf (xs_k hS rfl rfl : xm_k h14 182 = (3, 0))) (Nat.le_of_ble_eq_true rfl) (Nat.le_of_ble_eq_true rfl) (xm_Rn_le (Nat.le_of_ble_eq_true rfl) (t_X2_reasonAgainst  hS e19).1) ?_
        have hS := (t_X2_reasonAgainst  hS e19).2
        show xm_W _ _ _ 51 _ [.int v17] _
        exact xr_i (inj := xti) rfl rfl rfl rfl hf hQ hS
      · refine xw_SX (x := q20) rfl (Nat.le_of_ble_eq_true rfl) (Nat.le_of_ble_eq_true rfl) (xm_Rn_le (Nat.le_of_ble_eq_true rfl) (t_X10_requireUser  hS e9).1) rfl ?_
        have hS := (t_X10_requireUser  hS e9).2
        exact xr_x (inj := xti) rfl hf hQ hS
    · refine xw_VX (x := q23) rfl rfl (xkf (xs_k hS rfl rfl : xm_k h2 160 = (0, 0))) (Nat.le_of_ble_eq_true rfl) (Nat.le_of_ble_eq_true rfl) (xm_Rn_le (Nat.le_of_ble_eq_true rfl) (t_X10_requireTag  hS e6).1) rfl ?_
      have hS := (t_X10_requireTag  hS e6).2
      exact xr_x (inj := xti) rfl hf hQ hS
  · refine xw_VX (x := q26) rfl rfl (xkf (xs_k hS rfl rfl : xm_k h 160 = (0, 0))) (Nat.le_of_ble_eq_true rfl) (Nat.le_of_ble_eq_true rfl) (xm_Rn_le (Nat.le_of_ble_eq_true rfl) (t_X10_requireCampaign  hS e3).1) rfl ?_
    have hS := (t_X10_requireCampaign  hS e3).2
    exact xr_x (inj := xti) rfl hf hQ hS
def f_L_refusal (N : Nat) (ρ : Nat) (x1 : Int32) (x2 : Int32) (x3 : Int32) (h : xm_H) : Option (Int32 × xm_H) := (xe (f_X10_refusal N ρ x1 x2 x3 h) (fun v1 h2 => (xl (xm_sl h2 316 0 (Int32.toInt64 v1)) fun h4 => (some ((0 : Int32), h4)))) (fun q6 h7 => (if (q6).1 = 14 then (some ((1 : Int32), h7)) else (if (q6).1 = 15 then (some ((2 : Int32), h7)) else none))))
theorem t_L_refusal {N : Nat} {ρ : Nat} {δ : Nat} {x1 : Int32} {x2 : Int32} {x3 : Int32} {h : xm_H} {w : Int32 × xm_H}  (hS : xS ρ δ h) (hf : f_L_refusal N ρ x1 x2 x3 h = some w) : xm_Rn xX 4 336 [.ref 160, .int x1, .int x2, .int x3, .ref 316] h (xji w.1) w.2 ∧ xS ρ δ w.2 := by
  refine xt_mk (φ := fun h => xS ρ δ h) (M := xM_L_refusal) (ls := [some (.ref 160), some (.int x1), some (.int x2), some (.int x3), some (.ref 316), none]) rfl (Nat.le_of_ble_eq_true rfl) rfl (fun Q hQ => ?_)
  unfold f_L_refusal at hf
  refine xw_G (pc' := 2) (st' := [.ref 316]) rfl rfl trivial ?_
  refine xw_G (pc' := 3) (st' := [.int (0 : Int32), .ref 316]) rfl rfl trivial ?_
  refine xw_G (pc' := 4) (st' := [.ref 160, .int (0 : Int32), .ref 316]) rfl rfl trivial ?_
  refine xw_G (pc' := 5) (st' := [.int x1, .ref 160, .int (0 : Int32), .ref 316]) rfl rfl trivial ?_
  refine xw_G (pc' := 6) (st' := [.int x2, .int x1, .ref 160, .int (0 : Int32), .ref 316]) rfl rfl trivial ?_
  refine xw_G (pc' := 7) (st' := [.int x3, .int x2, .int x1, .ref 160, .int (0 : Int32), .ref 316]) rfl rfl trivial ?_
  refine xe_e hf (fun v1 h2 e3 hf => ?_) (fun q6 h7 e3 hf => ?_)
  · refine xw_V (v := some (.int v1)) rfl rfl (xkf (xs_k hS rfl rfl : xm_k h 160 = (0, 0))) (Nat.le_of_ble_eq_true rfl) (Nat.le_of_ble_eq_true rfl) (xm_Rn_le (Nat.le_of_ble_eq_true rfl) (t_X10_refusal  hS e3).1) ?_
    have hS := (t_X10_refusal  hS e3).2
    show xm_W _ _ _ 10 _ [.int v1, .int (0 : Int32), .ref 316] _
    refine xw_G (pc' := 11) (st' := [.long (Int32.toInt64 v1), .int (0 : Int32), .ref 316]) rfl rfl trivial ?_
    refine xa_l rfl (xkf (xs_k hS rfl rfl : xm_k h2 316 = (104, 1))) (xkn (xs_k hS rfl rfl : xm_k h2 316 = (104, 1))) (by decide : xin (0 : Int32) 1) (Nat.le_of_ble_eq_true rfl) hf (fun h4 e5 hf => ?_)
    have hS := xS_sl hS e5
    refine xw_G (pc' := 23) (st' := []) rfl rfl trivial ?_
    refine xw_G (pc' := 24) (st' := [.int (0 : Int32)]) rfl rfl trivial ?_
    exact xr_i (inj := xji) rfl rfl rfl rfl hf hQ hS
  · by_cases hc8 : (q6).1 = 14
    · rw [if_pos hc8] at hf
      refine xw_VH (x := q6) (p := 15) rfl rfl (xkf (xs_k hS rfl rfl : xm_k h 160 = (0, 0))) (Nat.le_of_ble_eq_true rfl) (Nat.le_of_ble_eq_true rfl) (xm_Rn_le (Nat.le_of_ble_eq_true rfl) (t_X10_refusal  hS e3).1) (by rw [hc8]; rfl) ?_
      have hS := (t_X10_refusal  hS e3).2
      refine xw_G (pc' := 17) (ls' := [some (.ref 160), some (.int x1), some (.int x2), some (.int x3), some (.ref 316), some (.ref ((q6).2))]) (st' := []) rfl rfl (Nat.le_of_ble_eq_true rfl) ?_
      refine xw_G (pc' := 18) (st' := [.int (1 : Int32)]) rfl rfl trivial ?_
      exact xr_i (inj := xji) rfl rfl rfl rfl hf hQ hS
    · rw [if_neg hc8] at hf
      by_cases hc8 : (q6).1 = 15
      · rw [if_pos hc8] at hf
        refine xw_VH (x := q6) (p := 19) rfl rfl (xkf (xs_k hS rfl rfl : xm_k h 160 = (0, 0))) (Nat.le_of_ble_eq_true rfl) (Nat.le_of_ble_eq_true rfl) (xm_Rn_le (Nat.le_of_ble_eq_true rfl) (t_X10_refusal  hS e3).1) (by rw [hc8]; rfl) ?_
        have hS := (t_X10_refusal  hS e3).2
        refine xw_G (pc' := 21) (ls' := [some (.ref 160), some (.int x1), some (.int x2), some (.int x3), some (.ref 316), some (.ref ((q6).2))]) (st' := []) rfl rfl (Nat.le_of_ble_eq_true rfl) ?_
        refine xw_G (pc' := 22) (st' := [.int (2 : Int32)]) rfl rfl trivial ?_
        exact xr_i (inj := xji) rfl rfl rfl rfl hf hQ hS
      · rw [if_neg hc8] at hf
        exact (xn_e hf).elim
def f_X11_isUser (x0 : Int32) (h : xm_H) : Option (Int32 × xm_H) := (xb (f_X11_between (Int32.toInt64 x0) (0 : Int64) (15 : Int64) h) fun v1 h2 => (if v1 = 0 ∨ v1 = 1 then (some (v1, h2)) else none))
theorem t_X11_isUser {ρ : Nat} {δ : Nat} {x0 : Int32} {h : xm_H} {w : Int32 × xm_H}  (hS : xS ρ δ h) (hf : f_X11_isUser x0 h = some w) : xm_Rn xX 2 169 [.int x0] h (xji w.1) w.2 ∧ xS ρ δ w.2 := by
  refine xt_mk (φ := fun h => xS ρ δ h) (M := xM_X11_isUser) (ls := [some (.int x0)]) rfl (Nat.le_of_ble_eq_true rfl) rfl (fun Q hQ => ?_)
  unfold f_X11_isUser at hf
  refine xw_G (pc' := 1) (st' := [.int x0]) rfl rfl trivial ?_
  refine xw_G (pc' := 2) (st' := [.long (Int32.toInt64 x0)]) rfl rfl trivial ?_
  refine xw_G (pc' := 3) (st' := [.long (0 : Int64), .long (Int32.toInt64 x0)]) rfl rfl trivial ?_
  refine xw_G (pc' := 6) (st' := [.long (15 : Int64), .long (0 : Int64), .long (Int32.toInt64 x0)]) rfl rfl trivial ?_
  refine xb_e hf (fun v1 h2 e3 hf => ?_)
  refine xw_S (v := some (.int v1)) rfl (Nat.le_of_ble_eq_true rfl) (Nat.le_of_ble_eq_true rfl) (xm_Rn_le (Nat.le_of_ble_eq_true rfl) (t_X11_between  hS e3).1) ?_
  have hS := (t_X11_between  hS e3).2
  show xm_W _ _ _ 9 _ [.int v1] _
  refine xg_e hf (fun hg4 hf => ?_)
  exact xr_i (inj := xji) rfl rfl (xnar_z hg4).1 rfl hf hQ hS
def f_X11_good_ (x1 : Int32) (x2 : Int32) (h : xm_H) : Option (Int32 × xm_H) := (if x1 = 0 then (xl (xm_si h 302 4 (1 : Int32)) fun h2 => (if (xm_i h2 302 4) = 0 then (some ((1 : Int32), h2)) else (some ((0 : Int32), h2)))) else (if x2 = 0 then (xl (xm_si h 302 4 (2 : Int32)) fun h6 => (if (xm_i h6 302 4) = 0 then (some ((1 : Int32), h6)) else (some ((0 : Int32), h6)))) else (xl (xm_si h 302 4 (0 : Int32)) fun h9 => (if (xm_i h9 302 4) = 0 then (some ((1 : Int32), h9)) else (some ((0 : Int32), h9))))))
theorem t_X11_good_ {ρ : Nat} {δ : Nat} {x1 : Int32} {x2 : Int32} {h : xm_H} {w : Int32 × xm_H}  (hS : xS ρ δ h) (hf : f_X11_good_ x1 x2 h = some w) : xm_Rn xX 1 135 [.ref 302, .int x1, .int x2] h (xji w.1) w.2 ∧ xS ρ δ w.2 := by
  refine xt_mk (φ := fun h => xS ρ δ h) (M := xM_X11_good_) (ls := [some (.ref 302), some (.int x1), some (.int x2)]) rfl (Nat.le_of_ble_eq_true rfl) rfl (fun Q hQ => ?_)
  unfold f_X11_good_ at hf
  refine xw_G (pc' := 1) (st' := [.ref 302]) rfl rfl trivial ?_
  refine xw_G (pc' := 2) (st' := [.int x1, .ref 302]) rfl rfl trivial ?_
  refine xj_if_ne rfl hf (fun hc1 hf => ?_) (fun hc1 hf => ?_)
  · refine xw_G (pc' := 6) (st' := [.int (1 : Int32), .ref 302]) rfl rfl trivial ?_
    refine xw_G (pc' := 18) (st' := [.int (1 : Int32), .ref 302]) rfl rfl trivial ?_
    refine xp_i rfl (xkf (xs_k hS rfl rfl : xm_k h 302 = (11, 0))) (Nat.le_of_ble_eq_true rfl) hf (fun h2 e3 hf => ?_)
    have hS := xS_si hS e3
    refine xw_G (pc' := 22) (st' := [.ref 302]) rfl rfl trivial ?_
    refine xw_G (pc' := 25) (st' := [.int (xm_i h2 302 4)]) rfl rfl (xkf (xs_k hS rfl rfl : xm_k h2 302 = (11, 0))) ?_
    refine xj_if_ne rfl hf (fun hc4 hf => ?_) (fun hc4 hf => ?_)
    · refine xw_G (pc' := 29) (st' := [.int (1 : Int32)]) rfl rfl trivial ?_
      refine xw_G (pc' := 33) (st' := [.int (1 : Int32)]) rfl rfl trivial ?_
      exact xr_i (inj := xji) rfl rfl rfl rfl hf hQ hS
    · refine xw_G (pc' := 33) (st' := [.int (0 : Int32)]) rfl rfl trivial ?_
      exact xr_i (inj := xji) rfl rfl rfl rfl hf hQ hS
  · refine xw_G (pc' := 10) (st' := [.int x2, .ref 302]) rfl rfl trivial ?_
    refine xj_if_ne rfl hf (fun hc5 hf => ?_) (fun hc5 hf => ?_)
    · refine xw_G (pc' := 14) (st' := [.int (2 : Int32), .ref 302]) rfl rfl trivial ?_
      refine xw_G (pc' := 18) (st' := [.int (2 : Int32), .ref 302]) rfl rfl trivial ?_
      refine xp_i rfl (xkf (xs_k hS rfl rfl : xm_k h 302 = (11, 0))) (Nat.le_of_ble_eq_true rfl) hf (fun h6 e7 hf => ?_)
      have hS := xS_si hS e7
      refine xw_G (pc' := 22) (st' := [.ref 302]) rfl rfl trivial ?_
      refine xw_G (pc' := 25) (st' := [.int (xm_i h6 302 4)]) rfl rfl (xkf (xs_k hS rfl rfl : xm_k h6 302 = (11, 0))) ?_
      refine xj_if_ne rfl hf (fun hc8 hf => ?_) (fun hc8 hf => ?_)
      · refine xw_G (pc' := 29) (st' := [.int (1 : Int32)]) rfl rfl trivial ?_
        refine xw_G (pc' := 33) (st' := [.int (1 : Int32)]) rfl rfl trivial ?_
        exact xr_i (inj := xji) rfl rfl rfl rfl hf hQ hS
      · refine xw_G (pc' := 33) (st' := [.int (0 : Int32)]) rfl rfl trivial ?_
        exact xr_i (inj := xji) rfl rfl rfl rfl hf hQ hS
    · refine xw_G (pc' := 18) (st' := [.int (0 : Int32), .ref 302]) rfl rfl trivial ?_
      refine xp_i rfl (xkf (xs_k hS rfl rfl : xm_k h 302 = (11, 0))) (Nat.le_of_ble_eq_true rfl) hf (fun h9 e10 hf => ?_)
      have hS := xS_si hS e10
      refine xw_G (pc' := 22) (st' := [.ref 302]) rfl rfl trivial ?_
      refine xw_G (pc' := 25) (st' := [.int (xm_i h9 302 4)]) rfl rfl (xkf (xs_k hS rfl rfl : xm_k h9 302 = (11, 0))) ?_
      refine xj_if_ne rfl hf (fun hc11 hf => ?_) (fun hc11 hf => ?_)
      · refine xw_G (pc' := 29) (st' := [.int (1 : Int32)]) rfl rfl trivial ?_
        refine xw_G (pc' := 33) (st' := [.int (1 : Int32)]) rfl rfl trivial ?_
        exact xr_i (inj := xji) rfl rfl rfl rfl hf hQ hS
      · refine xw_G (pc' := 33) (st' := [.int (0 : Int32)]) rfl rfl trivial ?_
        exact xr_i (inj := xji) rfl rfl rfl rfl hf hQ hS
def f_X11_leftOf (x1 : Int32) (h : xm_H) : Option (Int32 × xm_H) := (xb (f_X11_of x1 (1 : Int32) h) fun v1 h2 => (xb (f_X11_of x1 (2 : Int32) h2) fun v4 h5 => (some (v1 - v4, h5))))
theorem t_X11_leftOf {ρ : Nat} {δ : Nat} {x1 : Int32} {h : xm_H} {w : Int32 × xm_H}  (hS : xS ρ δ h) (hf : f_X11_leftOf x1 h = some w) : xm_Rn xX 2 175 [.ref 302, .int x1] h (xji w.1) w.2 ∧ xS ρ δ w.2 := by
  refine xt_mk (φ := fun h => xS ρ δ h) (M := xM_X11_leftOf) (ls := [some (.ref 302), some (.int x1)]) rfl (Nat.le_of_ble_eq_true rfl) rfl (fun Q hQ => ?_)
  unfold f_X11_leftOf at hf
  refine xw_G (pc' := 1) (st' := [.ref 302]) rfl rfl trivial ?_
  refine xw_G (pc' := 2) (st' := [.int x1, .ref 302]) rfl rfl trivial ?_
  refine xw_G (pc' := 3) (st' := [.int (1 : Int32), .int x1, .ref 302]) rfl rfl trivial ?_
  refine xb_e hf (fun v1 h2 e3 hf => ?_)
  refine xw_V (v := some (.int v1)) rfl rfl (xkf (xs_k hS rfl rfl : xm_k h 302 = (11, 0))) (Nat.le_of_ble_eq_true rfl) (Nat.le_of_ble_eq_true rfl) (xm_Rn_le (Nat.le_of_ble_eq_true rfl) (t_X11_of  hS e3).1) ?_
  have hS := (t_X11_of  hS e3).2
  show xm_W _ _ _ 6 _ [.int v1] _
  refine xw_G (pc' := 7) (st' := [.ref 302, .int v1]) rfl rfl trivial ?_
  refine xw_G (pc' := 8) (st' := [.int x1, .ref 302, .int v1]) rfl rfl trivial ?_
  refine xw_G (pc' := 9) (st' := [.int (2 : Int32), .int x1, .ref 302, .int v1]) rfl rfl trivial ?_
  refine xb_e hf (fun v4 h5 e6 hf => ?_)
  refine xw_V (v := some (.int v4)) rfl rfl (xkf (xs_k hS rfl rfl : xm_k h2 302 = (11, 0))) (Nat.le_of_ble_eq_true rfl) (Nat.le_of_ble_eq_true rfl) (xm_Rn_le (Nat.le_of_ble_eq_true rfl) (t_X11_of  hS e6).1) ?_
  have hS := (t_X11_of  hS e6).2
  show xm_W _ _ _ 12 _ [.int v4, .int v1] _
  refine xw_G (pc' := 13) (st' := [.int (v1 - v4)]) rfl rfl trivial ?_
  exact xr_i (inj := xji) rfl rfl rfl rfl hf hQ hS
def f_X11_impressionAt (x1 : Int32) (x2 : Int32) (h : xm_H) : Option (Int32 × xm_H) := (if xin (((57 : Int32) + ((5 : Int32) * x1)) + x2) 2217 then (some (xm_i h 303 (Int32.toNatClampNeg (((57 : Int32) + ((5 : Int32) * x1)) + x2)), h)) else none)
theorem t_X11_impressionAt {ρ : Nat} {δ : Nat} {x1 : Int32} {x2 : Int32} {h : xm_H} {w : Int32 × xm_H}  (hS : xS ρ δ h) (hf : f_X11_impressionAt x1 x2 h = some w) : xm_Rn xX 1 189 [.ref 302, .int x1, .int x2] h (xji w.1) w.2 ∧ xS ρ δ w.2 := by
  refine xt_mk (φ := fun h => xS ρ δ h) (M := xM_X11_impressionAt) (ls := [some (.ref 302), some (.int x1), some (.int x2)]) rfl (Nat.le_of_ble_eq_true rfl) rfl (fun Q hQ => ?_)
  unfold f_X11_impressionAt at hf
  refine xw_G (pc' := 1) (st' := [.ref 302]) rfl rfl trivial ?_
  refine xw_gr rfl (xkf (xs_k hS rfl rfl : xm_k h 302 = (11, 0))) (xs_r hS rfl) ?_
  refine xw_G (pc' := 6) (st' := [.int (57 : Int32), .ref 303]) rfl rfl trivial ?_
  refine xw_G (pc' := 7) (st' := [.int (5 : Int32), .int (57 : Int32), .ref 303]) rfl rfl trivial ?_
  refine xw_G (pc' := 8) (st' := [.int x1, .int (5 : Int32), .int (57 : Int32), .ref 303]) rfl rfl trivial ?_
  refine xw_G (pc' := 9) (st' := [.int ((5 : Int32) * x1), .int (57 : Int32), .ref 303]) rfl rfl trivial ?_
  refine xw_G (pc' := 10) (st' := [.int ((57 : Int32) + ((5 : Int32) * x1)), .ref 303]) rfl rfl trivial ?_
  refine xw_G (pc' := 11) (st' := [.int x2, .int ((57 : Int32) + ((5 : Int32) * x1)), .ref 303]) rfl rfl trivial ?_
  refine xw_G (pc' := 12) (st' := [.int (((57 : Int32) + ((5 : Int32) * x1)) + x2), .ref 303]) rfl rfl trivial ?_
  refine xg_e hf (fun hg1 hf => ?_)
  refine xa_ld (t := 100) (τ := 0) (v := .int (xm_i h 303 (Int32.toNatClampNeg (((57 : Int32) + ((5 : Int32) * x1)) + x2)))) rfl rfl (xkf (xs_k hS rfl rfl : xm_k h 303 = (100, 2217))) (xkn (xs_k hS rfl rfl : xm_k h 303 = (100, 2217))) hg1 rfl ?_
  exact xr_i (inj := xji) rfl rfl rfl rfl hf hQ hS
def f_X11_recentOf_5B (N : Nat) (c1 : Int32) (c2 : Int32) (rec : Int32 → Int32 → xm_H → Option (Int32 × xm_H)) (c3 : Int32) (c4 : Int32) (h : xm_H) : Option (Int32 × xm_H) := (if c4 < (xm_i h 303 1) then (xb (f_X11_impressionAt c4 (1 : Int32) h) fun v2 h3 => (if v2 = c2 then (xb (f_X11_impressionAt c4 (2 : Int32) h3) fun v6 h7 => (if v6 = c1 then (xb (f_X11_impressionAt c4 (0 : Int32) h7) fun v10 h11 => (if xin ((39 : Int32) + c1) 72 then (if ((xm_i h11 303 0) - (xm_i h11 308 (Int32.toNatClampNeg ((39 : Int32) + c1)))) < v10 then (rec (c3 + (1 : Int32)) (c4 + (1 : Int32)) h11) else (rec (c3 + (0 : Int32)) (c4 + (1 : Int32)) h11)) else none)) else (rec (c3 + (0 : Int32)) (c4 + (1 : Int32)) h7))) else (rec (c3 + (0 : Int32)) (c4 + (1 : Int32)) h3))) else (some (c3, h)))
def f_X11_recentOf_5 (N : Nat) (c1 : Int32) (c2 : Int32) : Nat → Int32 → Int32 → xm_H → Option (Int32 × xm_H)
  | 0 => fun _ _ _ => none
  | n + 1 => fun c3 c4 h => f_X11_recentOf_5B N c1 c2 (f_X11_recentOf_5 N c1 c2 n) c3 c4 h
def f_X11_recentOf (N : Nat) (x1 : Int32) (x2 : Int32) (h : xm_H) : Option (Int32 × xm_H) := (f_X11_recentOf_5 N x1 x2 N (0 : Int32) (0 : Int32) h)
theorem tl_X11_recentOf_5 {ρ : Nat} {δ : Nat} {N : Nat} {c1 : Int32} {c2 : Int32} {Q : xm_O → xm_H → Prop} {w : Int32 × xm_H}  (hQ : xS ρ δ w.2 → Q (xji w.1) w.2)  : ∀ (n : Nat) (c3 : Int32) (c4 : Int32) (h : xm_H), xS ρ δ h → f_X11_recentOf_5 N c1 c2 n c3 c4 h = some w → xm_W (xm_Rn xX 1) xM_X11_recentOf Q 5 [some (.ref 302), some (.int c1), some (.int c2), some (.int c3), some (.int c4), none] [] h := by
  intro n
  induction n with
  | zero =>
    intro c3 c4 h hS hf
    exact (xn_e hf).elim
  | succ n ih =>
    intro c3 c4 h hS hf
    replace hf : f_X11_recentOf_5B N c1 c2 (f_X11_recentOf_5 N c1 c2 n) c3 c4 h = some w := hf
    unfold f_X11_recentOf_5B at hf
    refine xw_K (pc' := 7) (ls' := [some (.ref 302), some (.int c1), some (.int c2), some (.int c3), some (.int c4), none]) (st' := [.int c4]) rfl rfl trivial ?_
    refine xw_G (pc' := 8) (st' := [.ref 302, .int c4]) rfl rfl trivial ?_
    refine xw_gr rfl (xkf (xs_k hS rfl rfl : xm_k h 302 = (11, 0))) (xs_r hS rfl) ?_
    refine xw_G (pc' := 12) (st' := [.int (1 : Int32), .ref 303, .int c4]) rfl rfl trivial ?_
    refine xa_ld (t := 100) (τ := 0) (v := .int (xm_i h 303 1)) rfl rfl (xkf (xs_k hS rfl rfl : xm_k h 303 = (100, 2217))) (xkn (xs_k hS rfl rfl : xm_k h 303 = (100, 2217))) (by decide : xin (1 : Int32) 2217) rfl ?_
    refine xj_ic_ge rfl hf (fun hc1 hf => ?_) (fun hc1 hf => ?_)
    · refine xw_G (pc' := 17) (st' := [.ref 302]) rfl rfl trivial ?_
      refine xw_G (pc' := 19) (st' := [.int c4, .ref 302]) rfl rfl trivial ?_
      refine xw_G (pc' := 20) (st' := [.int (1 : Int32), .int c4, .ref 302]) rfl rfl trivial ?_
      refine xb_e hf (fun v2 h3 e4 hf => ?_)
      refine xw_V (v := some (.int v2)) rfl rfl (xkf (xs_k hS rfl rfl : xm_k h 302 = (11, 0))) (Nat.le_of_ble_eq_true rfl) (Nat.le_of_ble_eq_true rfl) (xm_Rn_le (Nat.le_of_ble_eq_true rfl) (t_X11_impressionAt  hS e4).1) ?_
      have hS := (t_X11_impressionAt  hS e4).2
      show xm_W _ _ _ 23 _ [.int v2] _
      refine xw_G (pc' := 24) (st' := [.int c2, .int v2]) rfl rfl trivial ?_
      refine xj_ic_ne rfl hf (fun hc5 hf => ?_) (fun hc5 hf => ?_)
      · refine xw_G (pc' := 28) (st' := [.ref 302]) rfl rfl trivial ?_
        refine xw_G (pc' := 30) (st' := [.int c4, .ref 302]) rfl rfl trivial ?_
        refine xw_G (pc' := 31) (st' := [.int (2 : Int32), .int c4, .ref 302]) rfl rfl trivial ?_
        refine xb_e hf (fun v6 h7 e8 hf => ?_)
        refine xw_V (v := some (.int v6)) rfl rfl (xkf (xs_k hS rfl rfl : xm_k h3 302 = (11, 0))) (Nat.le_of_ble_eq_true rfl) (Nat.le_of_ble_eq_true rfl) (xm_Rn_le (Nat.le_of_ble_eq_true rfl) (t_X11_impressionAt  hS e8).1) ?_
        have hS := (t_X11_impressionAt  hS e8).2
        show xm_W _ _ _ 34 _ [.int v6] _
        refine xw_G (pc' := 35) (st' := [.int c1, .int v6]) rfl rfl trivial ?_
        refine xj_ic_ne rfl hf (fun hc9 hf => ?_) (fun hc9 hf => ?_)
        · refine xw_G (pc' := 39) (st' := [.int (1 : Int32)]) rfl rfl trivial ?_
          refine xw_G (pc' := 43) (st' := [.int (1 : Int32)]) rfl rfl trivial ?_
          refine xw_G (pc' := 45) (ls' := [some (.ref 302), some (.int c1), some (.int c2), some (.int c3), some (.int c4), some (.int (1 : Int32))]) (st' := []) rfl rfl (Nat.le_of_ble_eq_true rfl) ?_
          refine xw_G (pc' := 46) (st' := [.int c3]) rfl rfl trivial ?_
          refine xw_G (pc' := 48) (st' := [.int (1 : Int32), .int c3]) rfl rfl trivial ?_
          refine xw_G (pc' := 51) (st' := [.int c3]) rfl rfl trivial ?_
          refine xw_G (pc' := 52) (st' := [.ref 302, .int c3]) rfl rfl trivial ?_
          refine xw_G (pc' := 54) (st' := [.int c4, .ref 302, .int c3]) rfl rfl trivial ?_
          refine xw_G (pc' := 55) (st' := [.int (0 : Int32), .int c4, .ref 302, .int c3]) rfl rfl trivial ?_
          refine xb_e hf (fun v10 h11 e12 hf => ?_)
          refine xw_V (v := some (.int v10)) rfl rfl (xkf (xs_k hS rfl rfl : xm_k h7 302 = (11, 0))) (Nat.le_of_ble_eq_true rfl) (Nat.le_of_ble_eq_true rfl) (xm_Rn_le (Nat.le_of_ble_eq_true rfl) (t_X11_impressionAt  hS e12).1) ?_
          have hS := (t_X11_impressionAt  hS e12).2
          show xm_W _ _ _ 58 _ [.int v10, .int c3] _
          refine xw_G (pc' := 59) (st' := [.ref 302, .int v10, .int c3]) rfl rfl trivial ?_
          refine xw_gr rfl (xkf (xs_k hS rfl rfl : xm_k h11 302 = (11, 0))) (xs_r hS rfl) ?_
          refine xw_G (pc' := 63) (st' := [.int (0 : Int32), .ref 303, .int v10, .int c3]) rfl rfl trivial ?_
          refine xa_ld (t := 100) (τ := 0) (v := .int (xm_i h11 303 0)) rfl rfl (xkf (xs_k hS rfl rfl : xm_k h11 303 = (100, 2217))) (xkn (xs_k hS rfl rfl : xm_k h11 303 = (100, 2217))) (by decide : xin (0 : Int32) 2217) rfl ?_
          refine xw_G (pc' := 65) (st' := [.ref 302, .int (xm_i h11 303 0), .int v10, .int c3]) rfl rfl trivial ?_
          refine xw_gr rfl (xkf (xs_k hS rfl rfl : xm_k h11 302 = (11, 0))) (xs_r hS rfl) ?_
          refine xw_G (pc' := 70) (st' := [.int (39 : Int32), .ref 308, .int (xm_i h11 303 0), .int v10, .int c3]) rfl rfl trivial ?_
          refine xw_G (pc' := 71) (st' := [.int c1, .int (39 : Int32), .ref 308, .int (xm_i h11 303 0), .int v10, .int c3]) rfl rfl trivial ?_
          refine xw_G (pc' := 72) (st' := [.int ((39 : Int32) + c1), .ref 308, .int (xm_i h11 303 0), .int v10, .int c3]) rfl rfl trivial ?_
          refine xg_e hf (fun hg13 hf => ?_)
          refine xa_ld (t := 100) (τ := 0) (v := .int (xm_i h11 308 (Int32.toNatClampNeg ((39 : Int32) + c1)))) rfl rfl (xkf (xs_k hS rfl rfl : xm_k h11 308 = (100, 72))) (xkn (xs_k hS rfl rfl : xm_k h11 308 = (100, 72))) hg13 rfl ?_
          refine xw_G (pc' := 74) (st' := [.int ((xm_i h11 303 0) - (xm_i h11 308 (Int32.toNatClampNeg ((39 : Int32) + c1)))), .int v10, .int c3]) rfl rfl trivial ?_
          refine xj_ic_le rfl hf (fun hc14 hf => ?_) (fun hc14 hf => ?_)
          · refine xw_G (pc' := 78) (st' := [.int (1 : Int32), .int c3]) rfl rfl trivial ?_
            refine xw_G (pc' := 82) (st' := [.int (1 : Int32), .int c3]) rfl rfl trivial ?_
            refine xw_G (pc' := 83) (st' := [.int (c3 + (1 : Int32))]) rfl rfl trivial ?_
            refine xw_G (pc' := 84) (ls' := [some (.ref 302), some (.int c1), some (.int c2), some (.int (c3 + (1 : Int32))), some (.int c4), some (.int (1 : Int32))]) (st' := []) rfl rfl (Nat.le_of_ble_eq_true rfl) ?_
            refine xw_G (pc' := 87) (ls' := [some (.ref 302), some (.int c1), some (.int c2), some (.int (c3 + (1 : Int32))), some (.int (c4 + (1 : Int32))), some (.int (1 : Int32))]) (st' := []) rfl rfl (Nat.le_of_ble_eq_true rfl) ?_
            refine xw_G (pc' := 5) (st' := []) rfl rfl trivial ?_
            refine xw_M rfl rfl ?_
            exact ih _ _ _ hS hf
          · refine xw_G (pc' := 82) (st' := [.int (0 : Int32), .int c3]) rfl rfl trivial ?_
            refine xw_G (pc' := 83) (st' := [.int (c3 + (0 : Int32))]) rfl rfl trivial ?_
            refine xw_G (pc' := 84) (ls' := [some (.ref 302), some (.int c1), some (.int c2), some (.int (c3 + (0 : Int32))), some (.int c4), some (.int (1 : Int32))]) (st' := []) rfl rfl (Nat.le_of_ble_eq_true rfl) ?_
            refine xw_G (pc' := 87) (ls' := [some (.ref 302), some (.int c1), some (.int c2), some (.int (c3 + (0 : Int32))), some (.int (c4 + (1 : Int32))), some (.int (1 : Int32))]) (st' := []) rfl rfl (Nat.le_of_ble_eq_true rfl) ?_
            refine xw_G (pc' := 5) (st' := []) rfl rfl trivial ?_
            refine xw_M rfl rfl ?_
            exact ih _ _ _ hS hf
        · refine xw_G (pc' := 43) (st' := [.int (0 : Int32)]) rfl rfl trivial ?_
          refine xw_G (pc' := 45) (ls' := [some (.ref 302), some (.int c1), some (.int c2), some (.int c3), some (.int c4), some (.int (0 : Int32))]) (st' := []) rfl rfl (Nat.le_of_ble_eq_true rfl) ?_
          refine xw_G (pc' := 46) (st' := [.int c3]) rfl rfl trivial ?_
          refine xw_G (pc' := 48) (st' := [.int (0 : Int32), .int c3]) rfl rfl trivial ?_
          refine xw_G (pc' := 81) (st' := [.int c3]) rfl rfl trivial ?_
          refine xw_G (pc' := 82) (st' := [.int (0 : Int32), .int c3]) rfl rfl trivial ?_
          refine xw_G (pc' := 83) (st' := [.int (c3 + (0 : Int32))]) rfl rfl trivial ?_
          refine xw_G (pc' := 84) (ls' := [some (.ref 302), some (.int c1), some (.int c2), some (.int (c3 + (0 : Int32))), some (.int c4), some (.int (0 : Int32))]) (st' := []) rfl rfl (Nat.le_of_ble_eq_true rfl) ?_
          refine xw_G (pc' := 87) (ls' := [some (.ref 302), some (.int c1), some (.int c2), some (.int (c3 + (0 : Int32))), some (.int (c4 + (1 : Int32))), some (.int (0 : Int32))]) (st' := []) rfl rfl (Nat.le_of_ble_eq_true rfl) ?_
          refine xw_G (pc' := 5) (st' := []) rfl rfl trivial ?_
          refine xw_M rfl rfl ?_
          exact ih _ _ _ hS hf
      · refine xw_G (pc' := 43) (st' := [.int (0 : Int32)]) rfl rfl trivial ?_
        refine xw_G (pc' := 45) (ls' := [some (.ref 302), some (.int c1), some (.int c2), some (.int c3), some (.int c4), some (.int (0 : Int32))]) (st' := []) rfl rfl (Nat.le_of_ble_eq_true rfl) ?_
        refine xw_G (pc' := 46) (st' := [.int c3]) rfl rfl trivial ?_
        refine xw_G (pc' := 48) (st' := [.int (0 : Int32), .int c3]) rfl rfl trivial ?_
        refine xw_G (pc' := 81) (st' := [.int c3]) rfl rfl trivial ?_
        refine xw_G (pc' := 82) (st' := [.int (0 : Int32), .int c3]) rfl rfl trivial ?_
        refine xw_G (pc' := 83) (st' := [.int (c3 + (0 : Int32))]) rfl rfl trivial ?_
        refine xw_G (pc' := 84) (ls' := [some (.ref 302), some (.int c1), some (.int c2), some (.int (c3 + (0 : Int32))), some (.int c4), some (.int (0 : Int32))]) (st' := []) rfl rfl (Nat.le_of_ble_eq_true rfl) ?_
        refine xw_G (pc' := 87) (ls' := [some (.ref 302), some (.int c1), some (.int c2), some (.int (c3 + (0 : Int32))), some (.int (c4 + (1 : Int32))), some (.int (0 : Int32))]) (st' := []) rfl rfl (Nat.le_of_ble_eq_true rfl) ?_
        refine xw_G (pc' := 5) (st' := []) rfl rfl trivial ?_
        refine xw_M rfl rfl ?_
        exact ih _ _ _ hS hf
    · refine xw_G (pc' := 91) (st' := [.int c3]) rfl rfl trivial ?_
      exact xr_i (inj := xji) rfl rfl rfl rfl hf hQ hS
theorem t_X11_recentOf {N : Nat} {ρ : Nat} {δ : Nat} {x1 : Int32} {x2 : Int32} {h : xm_H} {w : Int32 × xm_H}  (hS : xS ρ δ h) (hf : f_X11_recentOf N x1 x2 h = some w) : xm_Rn xX 2 190 [.ref 302, .int x1, .int x2] h (xji w.1) w.2 ∧ xS ρ δ w.2 := by
  refine xt_mk (φ := fun h => xS ρ δ h) (M := xM_X11_recentOf) (ls := [some (.ref 302), some (.int x1), some (.int x2), none, none, none]) rfl (Nat.le_of_ble_eq_true rfl) rfl (fun Q hQ => ?_)
  unfold f_X11_recentOf at hf
  refine xw_G (pc' := 1) (st' := [.int (0 : Int32)]) rfl rfl trivial ?_
  refine xw_G (pc' := 2) (ls' := [some (.ref 302), some (.int x1), some (.int x2), some (.int (0 : Int32)), none, none]) (st' := []) rfl rfl (Nat.le_of_ble_eq_true rfl) ?_
  refine xw_G (pc' := 3) (st' := [.int (0 : Int32)]) rfl rfl trivial ?_
  refine xw_G (pc' := 5) (ls' := [some (.ref 302), some (.int x1), some (.int x2), some (.int (0 : Int32)), some (.int (0 : Int32)), none]) (st' := []) rfl rfl (Nat.le_of_ble_eq_true rfl) ?_
  refine xw_M rfl rfl ?_
  refine tl_X11_recentOf_5  hQ  _ _ _ _ hS hf
def f_X11_refusalOf (N : Nat) (x1 : Int32) (x2 : Int32) (x3 : Int32) (h : xm_H) : Option (Int32 × xm_H) := (xb (f_X11_effective x1 h) fun v1 h2 => (xb (f_X11_of x1 (5 : Int32) h2) fun v4 h5 => (if v4 = (1 : Int32) then (some ((1 : Int32), h5)) else (if xin ((47 : Int32) + x1) 72 then (if (xm_i h5 308 (Int32.toNatClampNeg ((47 : Int32) + x1))) = (-1 : Int32) then (xb (f_X11_leftOf x1 h5) fun v10 h11 => (if v10 < v1 then (some ((3 : Int32), h11)) else (xb (f_X11_recentOf N x1 x2 h11) fun v14 h15 => (if xin ((31 : Int32) + x1) 72 then (if v14 < (xm_i h15 308 (Int32.toNatClampNeg ((31 : Int32) + x1))) then (xb (f_X11_of x1 (4 : Int32) h15) fun v19 h20 => (if v19 = (2 : Int32) then (xb (f_X11_of x1 (2 : Int32) h20) fun v23 h24 => (xb (f_X11_planOf x1 h24) fun v26 h27 => (if v23 < v26 then (if xin ((51 : Int32) + x3) 2217 then (if v1 < (xm_i h27 303 (Int32.toNatClampNeg ((51 : Int32) + x3))) then (some ((6 : Int32), h27)) else (some ((0 : Int32), h27))) else none) else (some ((5 : Int32), h27))))) else (if xin ((51 : Int32) + x3) 2217 then (if v1 < (xm_i h20 303 (Int32.toNatClampNeg ((51 : Int32) + x3))) then (some ((6 : Int32), h20)) else (some ((0 : Int32), h20))) else none))) else (some ((4 : Int32), h15))) else none)))) else (if (xm_i h5 308 (Int32.toNatClampNeg ((47 : Int32) + x1))) = x3 then (xb (f_X11_leftOf x1 h5) fun v35 h36 => (if v35 < v1 then (some ((3 : Int32), h36)) else (xb (f_X11_recentOf N x1 x2 h36) fun v39 h40 => (if xin ((31 : Int32) + x1) 72 then (if v39 < (xm_i h40 308 (Int32.toNatClampNeg ((31 : Int32) + x1))) then (xb (f_X11_of x1 (4 : Int32) h40) fun v44 h45 => (if v44 = (2 : Int32) then (xb (f_X11_of x1 (2 : Int32) h45) fun v48 h49 => (xb (f_X11_planOf x1 h49) fun v51 h52 => (if v48 < v51 then (if xin ((51 : Int32) + x3) 2217 then (if v1 < (xm_i h52 303 (Int32.toNatClampNeg ((51 : Int32) + x3))) then (some ((6 : Int32), h52)) else (some ((0 : Int32), h52))) else none) else (some ((5 : Int32), h52))))) else (if xin ((51 : Int32) + x3) 2217 then (if v1 < (xm_i h45 303 (Int32.toNatClampNeg ((51 : Int32) + x3))) then (some ((6 : Int32), h45)) else (some ((0 : Int32), h45))) else none))) else (some ((4 : Int32), h40))) else none)))) else (some ((2 : Int32), h5)))) else none))))
theorem t_X11_refusalOf {N : Nat} {ρ : Nat} {δ : Nat} {x1 : Int32} {x2 : Int32} {x3 : Int32} {h : xm_H} {w : Int32 × xm_H}  (hS : xS ρ δ h) (hf : f_X11_refusalOf N x1 x2 x3 h = some w) : xm_Rn xX 3 191 [.ref 302, .int x1, .int x2, .int x3] h (xji w.1) w.2 ∧ xS ρ δ w.2 := by
  refine xt_mk (φ := fun h => xS ρ δ h) (M := xM_X11_refusalOf) (ls := [some (.ref 302), some (.int x1), some (.int x2), some (.int x3), none]) rfl (Nat.le_of_ble_eq_true rfl) rfl (fun Q hQ => ?_)
  unfold f_X11_refusalOf at hf
  refine xw_G (pc' := 1) (st' := [.ref 302]) rfl rfl trivial ?_
  refine xw_G (pc' := 2) (st' := [.int x1, .ref 302]) rfl rfl trivial ?_
  refine xb_e hf (fun v1 h2 e3 hf => ?_)
  refine xw_V (v := some (.int v1)) rfl rfl (xkf (xs_k hS rfl rfl : xm_k h 302 = (11, 0))) (Nat.le_of_ble_eq_true rfl) (Nat.le_of_ble_eq_true rfl) (xm_Rn_le (Nat.le_of_ble_eq_true rfl) (t_X11_effective  hS e3).1) ?_
  have hS := (t_X11_effective  hS e3).2
  show xm_W _ _ _ 5 _ [.int v1] _
  refine xw_G (pc' := 7) (ls' := [some (.ref 302), some (.int x1), some (.int x2), some (.int x3), some (.int v1)]) (st' := []) rfl rfl (Nat.le_of_ble_eq_true rfl) ?_
  refine xw_G (pc' := 8) (st' := [.ref 302]) rfl rfl trivial ?_
  refine xw_G (pc' := 9) (st' := [.int x1, .ref 302]) rfl rfl trivial ?_
  refine xw_G (pc' := 10) (st' := [.int (5 : Int32), .int x1, .ref 302]) rfl rfl trivial ?_
  refine xb_e hf (fun v4 h5 e6 hf => ?_)
  refine xw_V (v := some (.int v4)) rfl rfl (xkf (xs_k hS rfl rfl : xm_k h2 302 = (11, 0))) (Nat.le_of_ble_eq_true rfl) (Nat.le_of_ble_eq_true rfl) (xm_Rn_le (Nat.le_of_ble_eq_true rfl) (t_X11_of  hS e6).1) ?_
  have hS := (t_X11_of  hS e6).2
  show xm_W _ _ _ 13 _ [.int v4] _
  refine xw_G (pc' := 14) (st' := [.int (1 : Int32), .int v4]) rfl rfl trivial ?_
  refine xj_ic_ne rfl hf (fun hc7 hf => ?_) (fun hc7 hf => ?_)
  · refine xw_G (pc' := 18) (st' := [.int (1 : Int32)]) rfl rfl trivial ?_
    exact xr_i (inj := xji) rfl rfl rfl rfl hf hQ hS
  · refine xw_G (pc' := 20) (st' := [.ref 302]) rfl rfl trivial ?_
    refine xw_gr rfl (xkf (xs_k hS rfl rfl : xm_k h5 302 = (11, 0))) (xs_r hS rfl) ?_
    refine xw_G (pc' := 25) (st' := [.int (47 : Int32), .ref 308]) rfl rfl trivial ?_
    refine xw_G (pc' := 26) (st' := [.int x1, .int (47 : Int32), .ref 308]) rfl rfl trivial ?_
    refine xw_G (pc' := 27) (st' := [.int ((47 : Int32) + x1), .ref 308]) rfl rfl trivial ?_
    refine xg_e hf (fun hg8 hf => ?_)
    refine xa_ld (t := 100) (τ := 0) (v := .int (xm_i h5 308 (Int32.toNatClampNeg ((47 : Int32) + x1)))) rfl rfl (xkf (xs_k hS rfl rfl : xm_k h5 308 = (100, 72))) (xkn (xs_k hS rfl rfl : xm_k h5 308 = (100, 72))) hg8 rfl ?_
    refine xw_G (pc' := 29) (st' := [.int (-1 : Int32), .int (xm_i h5 308 (Int32.toNatClampNeg ((47 : Int32) + x1)))]) rfl rfl trivial ?_
    refine xj_ic_eq rfl hf (fun hc9 hf => ?_) (fun hc9 hf => ?_)
    · refine xw_G (pc' := 48) (st' := [.ref 302]) rfl rfl trivial ?_
      refine xw_G (pc' := 49) (st' := [.int x1, .ref 302]) rfl rfl trivial ?_
      refine xb_e hf (fun v10 h11 e12 hf => ?_)
      refine xw_V (v := some (.int v10)) rfl rfl (xkf (xs_k hS rfl rfl : xm_k h5 302 = (11, 0))) (Nat.le_of_ble_eq_true rfl) (Nat.le_of_ble_eq_true rfl) (xm_Rn_le (Nat.le_of_ble_eq_true rfl) (t_X11_leftOf  hS e12).1) ?_
      have hS := (t_X11_leftOf  hS e12).2
      show xm_W _ _ _ 52 _ [.int v10] _
      refine xw_G (pc' := 54) (st' := [.int v1, .int v10]) rfl rfl trivial ?_
      refine xj_ic_ge rfl hf (fun hc13 hf => ?_) (fun hc13 hf => ?_)
      · refine xw_G (pc' := 58) (st' := [.int (3 : Int32)]) rfl rfl trivial ?_
        exact xr_i (inj := xji) rfl rfl rfl rfl hf hQ hS
      · refine xw_G (pc' := 60) (st' := [.ref 302]) rfl rfl trivial ?_
        refine xw_G (pc' := 61) (st' := [.int x1, .ref 302]) rfl rfl trivial ?_
        refine xw_G (pc' := 62) (st' := [.int x2, .int x1, .ref 302]) rfl rfl trivial ?_
        refine xb_e hf (fun v14 h15 e16 hf => ?_)
        refine xw_V (v := some (.int v14)) rfl rfl (xkf (xs_k hS rfl rfl : xm_k h11 302 = (11, 0))) (Nat.le_of_ble_eq_true rfl) (Nat.le_of_ble_eq_true rfl) (xm_Rn_le (Nat.le_of_ble_eq_true rfl) (t_X11_recentOf  hS e16).1) ?_
        have hS := (t_X11_recentOf  hS e16).2
        show xm_W _ _ _ 65 _ [.int v14] _
        refine xw_G (pc' := 66) (st' := [.ref 302, .int v14]) rfl rfl trivial ?_
        refine xw_gr rfl (xkf (xs_k hS rfl rfl : xm_k h15 302 = (11, 0))) (xs_r hS rfl) ?_
        refine xw_G (pc' := 71) (st' := [.int (31 : Int32), .ref 308, .int v14]) rfl rfl trivial ?_
        refine xw_G (pc' := 72) (st' := [.int x1, .int (31 : Int32), .ref 308, .int v14]) rfl rfl trivial ?_
        refine xw_G (pc' := 73) (st' := [.int ((31 : Int32) + x1), .ref 308, .int v14]) rfl rfl trivial ?_
        refine xg_e hf (fun hg17 hf => ?_)
        refine xa_ld (t := 100) (τ := 0) (v := .int (xm_i h15 308 (Int32.toNatClampNeg ((31 : Int32) + x1)))) rfl rfl (xkf (xs_k hS rfl rfl : xm_k h15 308 = (100, 72))) (xkn (xs_k hS rfl rfl : xm_k h15 308 = (100, 72))) hg17 rfl ?_
        refine xj_ic_lt rfl hf (fun hc18 hf => ?_) (fun hc18 hf => ?_)
        · refine xw_G (pc' := 80) (st' := [.ref 302]) rfl rfl trivial ?_
          refine xw_G (pc' := 81) (st' := [.int x1, .ref 302]) rfl rfl trivial ?_
          refine xw_G (pc' := 82) (st' := [.int (4 : Int32), .int x1, .ref 302]) rfl rfl trivial ?_
          refine xb_e hf (fun v19 h20 e21 hf => ?_)
          refine xw_V (v := some (.int v19)) rfl rfl (xkf (xs_k hS rfl rfl : xm_k h15 302 = (11, 0))) (Nat.le_of_ble_eq_true rfl) (Nat.le_of_ble_eq_true rfl) (xm_Rn_le (Nat.le_of_ble_eq_true rfl) (t_X11_of  hS e21).1) ?_
          have hS := (t_X11_of  hS e21).2
          show xm_W _ _ _ 85 _ [.int v19] _
          refine xw_G (pc' := 86) (st' := [.int (2 : Int32), .int v19]) rfl rfl trivial ?_
          refine xj_ic_ne rfl hf (fun hc22 hf => ?_) (fun hc22 hf => ?_)
          · refine xw_G (pc' := 90) (st' := [.ref 302]) rfl rfl trivial ?_
            refine xw_G (pc' := 91) (st' := [.int x1, .ref 302]) rfl rfl trivial ?_
            refine xw_G (pc' := 92) (st' := [.int (2 : Int32), .int x1, .ref 302]) rfl rfl trivial ?_
            refine xb_e hf (fun v23 h24 e25 hf => ?_)
            refine xw_V (v := some (.int v23)) rfl rfl (xkf (xs_k hS rfl rfl : xm_k h20 302 = (11, 0))) (Nat.le_of_ble_eq_true rfl) (Nat.le_of_ble_eq_true rfl) (xm_Rn_le (Nat.le_of_ble_eq_true rfl) (t_X11_of  hS e25).1) ?_
            have hS := (t_X11_of  hS e25).2
            show xm_W _ _ _ 95 _ [.int v23] _
            refine xw_G (pc' := 96) (st' := [.ref 302, .int v23]) rfl rfl trivial ?_
            refine xw_G (pc' := 97) (st' := [.int x1, .ref 302, .int v23]) rfl rfl trivial ?_
            refine xb_e hf (fun v26 h27 e28 hf => ?_)
            refine xw_V (v := some (.int v26)) rfl rfl (xkf (xs_k hS rfl rfl : xm_k h24 302 = (11, 0))) (Nat.le_of_ble_eq_true rfl) (Nat.le_of_ble_eq_true rfl) (xm_Rn_le (Nat.le_of_ble_eq_true rfl) (t_X11_planOf  hS e28).1) ?_
            have hS := (t_X11_planOf  hS e28).2
            show xm_W _ _ _ 100 _ [.int v26, .int v23] _
            refine xj_ic_lt rfl hf (fun hc29 hf => ?_) (fun hc29 hf => ?_)
            · refine xw_G (pc' := 107) (st' := [.int v1]) rfl rfl trivial ?_
              refine xw_G (pc' := 108) (st' := [.ref 302, .int v1]) rfl rfl trivial ?_
              refine xw_gr rfl (xkf (xs_k hS rfl rfl : xm_k h27 302 = (11, 0))) (xs_r hS rfl) ?_
              refine xw_G (pc' := 113) (st' := [.int (51 : Int32), .ref 303, .int v1]) rfl rfl trivial ?_
              refine xw_G (pc' := 114) (st' := [.int x3, .int (51 : Int32), .ref 303, .int v1]) rfl rfl trivial ?_
              refine xw_G (pc' := 115) (st' := [.int ((51 : Int32) + x3), .ref 303, .int v1]) rfl rfl trivial ?_
              refine xg_e hf (fun hg30 hf => ?_)
              refine xa_ld (t := 100) (τ := 0) (v := .int (xm_i h27 303 (Int32.toNatClampNeg ((51 : Int32) + x3)))) rfl rfl (xkf (xs_k hS rfl rfl : xm_k h27 303 = (100, 2217))) (xkn (xs_k hS rfl rfl : xm_k h27 303 = (100, 2217))) hg30 rfl ?_
              refine xj_ic_ge rfl hf (fun hc31 hf => ?_) (fun hc31 hf => ?_)
              · refine xw_G (pc' := 121) (st' := [.int (6 : Int32)]) rfl rfl trivial ?_
                refine xw_G (pc' := 125) (st' := [.int (6 : Int32)]) rfl rfl trivial ?_
                exact xr_i (inj := xji) rfl rfl rfl rfl hf hQ hS
              · refine xw_G (pc' := 125) (st' := [.int (0 : Int32)]) rfl rfl trivial ?_
                exact xr_i (inj := xji) rfl rfl rfl rfl hf hQ hS
            · refine xw_G (pc' := 104) (st' := [.int (5 : Int32)]) rfl rfl trivial ?_
              exact xr_i (inj := xji) rfl rfl rfl rfl hf hQ hS
          · refine xw_G (pc' := 107) (st' := [.int v1]) rfl rfl trivial ?_
            refine xw_G (pc' := 108) (st' := [.ref 302, .int v1]) rfl rfl trivial ?_
            refine xw_gr rfl (xkf (xs_k hS rfl rfl : xm_k h20 302 = (11, 0))) (xs_r hS rfl) ?_
            refine xw_G (pc' := 113) (st' := [.int (51 : Int32), .ref 303, .int v1]) rfl rfl trivial ?_
            refine xw_G (pc' := 114) (st' := [.int x3, .int (51 : Int32), .ref 303, .int v1]) rfl rfl trivial ?_
            refine xw_G (pc' := 115) (st' := [.int ((51 : Int32) + x3), .ref 303, .int v1]) rfl rfl trivial ?_
            refine xg_e hf (fun hg32 hf => ?_)
            refine xa_ld (t := 100) (τ := 0) (v := .int (xm_i h20 303 (Int32.toNatClampNeg ((51 : Int32) + x3)))) rfl rfl (xkf (xs_k hS rfl rfl : xm_k h20 303 = (100, 2217))) (xkn (xs_k hS rfl rfl : xm_k h20 303 = (100, 2217))) hg32 rfl ?_
            refine xj_ic_ge rfl hf (fun hc33 hf => ?_) (fun hc33 hf => ?_)
            · refine xw_G (pc' := 121) (st' := [.int (6 : Int32)]) rfl rfl trivial ?_
              refine xw_G (pc' := 125) (st' := [.int (6 : Int32)]) rfl rfl trivial ?_
              exact xr_i (inj := xji) rfl rfl rfl rfl hf hQ hS
            · refine xw_G (pc' := 125) (st' := [.int (0 : Int32)]) rfl rfl trivial ?_
              exact xr_i (inj := xji) rfl rfl rfl rfl hf hQ hS
        · refine xw_G (pc' := 78) (st' := [.int (4 : Int32)]) rfl rfl trivial ?_
          exact xr_i (inj := xji) rfl rfl rfl rfl hf hQ hS
    · refine xw_G (pc' := 33) (st' := [.ref 302]) rfl rfl trivial ?_
      refine xw_gr rfl (xkf (xs_k hS rfl rfl : xm_k h5 302 = (11, 0))) (xs_r hS rfl) ?_
      refine xw_G (pc' := 38) (st' := [.int (47 : Int32), .ref 308]) rfl rfl trivial ?_
      refine xw_G (pc' := 39) (st' := [.int x1, .int (47 : Int32), .ref 308]) rfl rfl trivial ?_
      refine xw_G (pc' := 40) (st' := [.int ((47 : Int32) + x1), .ref 308]) rfl rfl trivial ?_
      refine xa_ld (t := 100) (τ := 0) (v := .int (xm_i h5 308 (Int32.toNatClampNeg ((47 : Int32) + x1)))) rfl rfl (xkf (xs_k hS rfl rfl : xm_k h5 308 = (100, 72))) (xkn (xs_k hS rfl rfl : xm_k h5 308 = (100, 72))) hg8 rfl ?_
      refine xw_G (pc' := 42) (st' := [.int x3, .int (xm_i h5 308 (Int32.toNatClampNeg ((47 : Int32) + x1)))]) rfl rfl trivial ?_
      refine xj_ic_eq rfl hf (fun hc34 hf => ?_) (fun hc34 hf => ?_)
      · refine xw_G (pc' := 48) (st' := [.ref 302]) rfl rfl trivial ?_
        refine xw_G (pc' := 49) (st' := [.int x1, .ref 302]) rfl rfl trivial ?_
        refine xb_e hf (fun v35 h36 e37 hf => ?_)
        refine xw_V (v := some (.int v35)) rfl rfl (xkf (xs_k hS rfl rfl : xm_k h5 302 = (11, 0))) (Nat.le_of_ble_eq_true rfl) (Nat.le_of_ble_eq_true rfl) (xm_Rn_le (Nat.le_of_ble_eq_true rfl) (t_X11_leftOf  hS e37).1) ?_
        have hS := (t_X11_leftOf  hS e37).2
        show xm_W _ _ _ 52 _ [.int v35] _
        refine xw_G (pc' := 54) (st' := [.int v1, .int v35]) rfl rfl trivial ?_
        refine xj_ic_ge rfl hf (fun hc38 hf => ?_) (fun hc38 hf => ?_)
        · refine xw_G (pc' := 58) (st' := [.int (3 : Int32)]) rfl rfl trivial ?_
          exact xr_i (inj := xji) rfl rfl rfl rfl hf hQ hS
        · refine xw_G (pc' := 60) (st' := [.ref 302]) rfl rfl trivial ?_
          refine xw_G (pc' := 61) (st' := [.int x1, .ref 302]) rfl rfl trivial ?_
          refine xw_G (pc' := 62) (st' := [.int x2, .int x1, .ref 302]) rfl rfl trivial ?_
          refine xb_e hf (fun v39 h40 e41 hf => ?_)
          refine xw_V (v := some (.int v39)) rfl rfl (xkf (xs_k hS rfl rfl : xm_k h36 302 = (11, 0))) (Nat.le_of_ble_eq_true rfl) (Nat.le_of_ble_eq_true rfl) (xm_Rn_le (Nat.le_of_ble_eq_true rfl) (t_X11_recentOf  hS e41).1) ?_
          have hS := (t_X11_recentOf  hS e41).2
          show xm_W _ _ _ 65 _ [.int v39] _
          refine xw_G (pc' := 66) (st' := [.ref 302, .int v39]) rfl rfl trivial ?_
          refine xw_gr rfl (xkf (xs_k hS rfl rfl : xm_k h40 302 = (11, 0))) (xs_r hS rfl) ?_
          refine xw_G (pc' := 71) (st' := [.int (31 : Int32), .ref 308, .int v39]) rfl rfl trivial ?_
          refine xw_G (pc' := 72) (st' := [.int x1, .int (31 : Int32), .ref 308, .int v39]) rfl rfl trivial ?_
          refine xw_G (pc' := 73) (st' := [.int ((31 : Int32) + x1), .ref 308, .int v39]) rfl rfl trivial ?_
          refine xg_e hf (fun hg42 hf => ?_)
          refine xa_ld (t := 100) (τ := 0) (v := .int (xm_i h40 308 (Int32.toNatClampNeg ((31 : Int32) + x1)))) rfl rfl (xkf (xs_k hS rfl rfl : xm_k h40 308 = (100, 72))) (xkn (xs_k hS rfl rfl : xm_k h40 308 = (100, 72))) hg42 rfl ?_
          refine xj_ic_lt rfl hf (fun hc43 hf => ?_) (fun hc43 hf => ?_)
          · refine xw_G (pc' := 80) (st' := [.ref 302]) rfl rfl trivial ?_
            refine xw_G (pc' := 81) (st' := [.int x1, .ref 302]) rfl rfl trivial ?_
            refine xw_G (pc' := 82) (st' := [.int (4 : Int32), .int x1, .ref 302]) rfl rfl trivial ?_
            refine xb_e hf (fun v44 h45 e46 hf => ?_)
            refine xw_V (v := some (.int v44)) rfl rfl (xkf (xs_k hS rfl rfl : xm_k h40 302 = (11, 0))) (Nat.le_of_ble_eq_true rfl) (Nat.le_of_ble_eq_true rfl) (xm_Rn_le (Nat.le_of_ble_eq_true rfl) (t_X11_of  hS e46).1) ?_
            have hS := (t_X11_of  hS e46).2
            show xm_W _ _ _ 85 _ [.int v44] _
            refine xw_G (pc' := 86) (st' := [.int (2 : Int32), .int v44]) rfl rfl trivial ?_
            refine xj_ic_ne rfl hf (fun hc47 hf => ?_) (fun hc47 hf => ?_)
            · refine xw_G (pc' := 90) (st' := [.ref 302]) rfl rfl trivial ?_
              refine xw_G (pc' := 91) (st' := [.int x1, .ref 302]) rfl rfl trivial ?_
              refine xw_G (pc' := 92) (st' := [.int (2 : Int32), .int x1, .ref 302]) rfl rfl trivial ?_
              refine xb_e hf (fun v48 h49 e50 hf => ?_)
              refine xw_V (v := some (.int v48)) rfl rfl (xkf (xs_k hS rfl rfl : xm_k h45 302 = (11, 0))) (Nat.le_of_ble_eq_true rfl) (Nat.le_of_ble_eq_true rfl) (xm_Rn_le (Nat.le_of_ble_eq_true rfl) (t_X11_of  hS e50).1) ?_
              have hS := (t_X11_of  hS e50).2
              show xm_W _ _ _ 95 _ [.int v48] _
              refine xw_G (pc' := 96) (st' := [.ref 302, .int v48]) rfl rfl trivial ?_
              refine xw_G (pc' := 97) (st' := [.int x1, .ref 302, .int v48]) rfl rfl trivial ?_
              refine xb_e hf (fun v51 h52 e53 hf => ?_)
              refine xw_V (v := some (.int v51)) rfl rfl (xkf (xs_k hS rfl rfl : xm_k h49 302 = (11, 0))) (Nat.le_of_ble_eq_true rfl) (Nat.le_of_ble_eq_true rfl) (xm_Rn_le (Nat.le_of_ble_eq_true rfl) (t_X11_planOf  hS e53).1) ?_
              have hS := (t_X11_planOf  hS e53).2
              show xm_W _ _ _ 100 _ [.int v51, .int v48] _
              refine xj_ic_lt rfl hf (fun hc54 hf => ?_) (fun hc54 hf => ?_)
              · refine xw_G (pc' := 107) (st' := [.int v1]) rfl rfl trivial ?_
                refine xw_G (pc' := 108) (st' := [.ref 302, .int v1]) rfl rfl trivial ?_
                refine xw_gr rfl (xkf (xs_k hS rfl rfl : xm_k h52 302 = (11, 0))) (xs_r hS rfl) ?_
                refine xw_G (pc' := 113) (st' := [.int (51 : Int32), .ref 303, .int v1]) rfl rfl trivial ?_
                refine xw_G (pc' := 114) (st' := [.int x3, .int (51 : Int32), .ref 303, .int v1]) rfl rfl trivial ?_
                refine xw_G (pc' := 115) (st' := [.int ((51 : Int32) + x3), .ref 303, .int v1]) rfl rfl trivial ?_
                refine xg_e hf (fun hg55 hf => ?_)
                refine xa_ld (t := 100) (τ := 0) (v := .int (xm_i h52 303 (Int32.toNatClampNeg ((51 : Int32) + x3)))) rfl rfl (xkf (xs_k hS rfl rfl : xm_k h52 303 = (100, 2217))) (xkn (xs_k hS rfl rfl : xm_k h52 303 = (100, 2217))) hg55 rfl ?_
                refine xj_ic_ge rfl hf (fun hc56 hf => ?_) (fun hc56 hf => ?_)
                · refine xw_G (pc' := 121) (st' := [.int (6 : Int32)]) rfl rfl trivial ?_
                  refine xw_G (pc' := 125) (st' := [.int (6 : Int32)]) rfl rfl trivial ?_
                  exact xr_i (inj := xji) rfl rfl rfl rfl hf hQ hS
                · refine xw_G (pc' := 125) (st' := [.int (0 : Int32)]) rfl rfl trivial ?_
                  exact xr_i (inj := xji) rfl rfl rfl rfl hf hQ hS
              · refine xw_G (pc' := 104) (st' := [.int (5 : Int32)]) rfl rfl trivial ?_
                exact xr_i (inj := xji) rfl rfl rfl rfl hf hQ hS
            · refine xw_G (pc' := 107) (st' := [.int v1]) rfl rfl trivial ?_
              refine xw_G (pc' := 108) (st' := [.ref 302, .int v1]) rfl rfl trivial ?_
              refine xw_gr rfl (xkf (xs_k hS rfl rfl : xm_k h45 302 = (11, 0))) (xs_r hS rfl) ?_
              refine xw_G (pc' := 113) (st' := [.int (51 : Int32), .ref 303, .int v1]) rfl rfl trivial ?_
              refine xw_G (pc' := 114) (st' := [.int x3, .int (51 : Int32), .ref 303, .int v1]) rfl rfl trivial ?_
              refine xw_G (pc' := 115) (st' := [.int ((51 : Int32) + x3), .ref 303, .int v1]) rfl rfl trivial ?_
              refine xg_e hf (fun hg57 hf => ?_)
              refine xa_ld (t := 100) (τ := 0) (v := .int (xm_i h45 303 (Int32.toNatClampNeg ((51 : Int32) + x3)))) rfl rfl (xkf (xs_k hS rfl rfl : xm_k h45 303 = (100, 2217))) (xkn (xs_k hS rfl rfl : xm_k h45 303 = (100, 2217))) hg57 rfl ?_
              refine xj_ic_ge rfl hf (fun hc58 hf => ?_) (fun hc58 hf => ?_)
              · refine xw_G (pc' := 121) (st' := [.int (6 : Int32)]) rfl rfl trivial ?_
                refine xw_G (pc' := 125) (st' := [.int (6 : Int32)]) rfl rfl trivial ?_
                exact xr_i (inj := xji) rfl rfl rfl rfl hf hQ hS
              · refine xw_G (pc' := 125) (st' := [.int (0 : Int32)]) rfl rfl trivial ?_
                exact xr_i (inj := xji) rfl rfl rfl rfl hf hQ hS
          · refine xw_G (pc' := 78) (st' := [.int (4 : Int32)]) rfl rfl trivial ?_
            exact xr_i (inj := xji) rfl rfl rfl rfl hf hQ hS
      · refine xw_G (pc' := 46) (st' := [.int (2 : Int32)]) rfl rfl trivial ?_
        exact xr_i (inj := xji) rfl rfl rfl rfl hf hQ hS
def f_X11_refusal (N : Nat) (x1 : Int32) (x2 : Int32) (x3 : Int32) (h : xm_H) : Option (Int32 × xm_H) := (xb (f_X11_isCampaign x1 h) fun v1 h2 => (if v1 = 0 then (xb (f_X11_isUser x2 h2) fun v5 h6 => (xb (f_X11_good_ (0 : Int32) v5 h6) fun v8 h9 => (if v8 = 0 then (some ((0 : Int32), h9)) else (xb (f_X11_refusalOf N x1 x2 x3 h9) fun v12 h13 => (some (v12, h13)))))) else (xb (f_X11_isTag x3 h2) fun v15 h16 => (if v15 = 0 then (xb (f_X11_isUser x2 h16) fun v19 h20 => (xb (f_X11_good_ (0 : Int32) v19 h20) fun v22 h23 => (if v22 = 0 then (some ((0 : Int32), h23)) else (xb (f_X11_refusalOf N x1 x2 x3 h23) fun v26 h27 => (some (v26, h27)))))) else (xb (f_X11_isUser x2 h16) fun v29 h30 => (xb (f_X11_good_ (1 : Int32) v29 h30) fun v32 h33 => (if v32 = 0 then (some ((0 : Int32), h33)) else (xb (f_X11_refusalOf N x1 x2 x3 h33) fun v36 h37 => (some (v36, h37))))))))))
theorem t_X11_refusal {N : Nat} {ρ : Nat} {δ : Nat} {x1 : Int32} {x2 : Int32} {x3 : Int32} {h : xm_H} {w : Int32 × xm_H}  (hS : xS ρ δ h) (hf : f_X11_refusal N x1 x2 x3 h = some w) : xm_Rn xX 4 200 [.ref 302, .int x1, .int x2, .int x3] h (xji w.1) w.2 ∧ xS ρ δ w.2 := by
  refine xt_mk (φ := fun h => xS ρ δ h) (M := xM_X11_refusal) (ls := [some (.ref 302), some (.int x1), some (.int x2), some (.int x3)]) rfl (Nat.le_of_ble_eq_true rfl) rfl (fun Q hQ => ?_)
  unfold f_X11_refusal at hf
  refine xw_G (pc' := 1) (st' := [.ref 302]) rfl rfl trivial ?_
  refine xw_G (pc' := 2) (st' := [.ref 302, .ref 302]) rfl rfl trivial ?_
  refine xw_G (pc' := 3) (st' := [.int x1, .ref 302, .ref 302]) rfl rfl trivial ?_
  refine xb_e hf (fun v1 h2 e3 hf => ?_)
  refine xw_V (v := some (.int v1)) rfl rfl (xkf (xs_k hS rfl rfl : xm_k h 302 = (11, 0))) (Nat.le_of_ble_eq_true rfl) (Nat.le_of_ble_eq_true rfl) (xm_Rn_le (Nat.le_of_ble_eq_true rfl) (t_X11_isCampaign  hS e3).1) ?_
  have hS := (t_X11_isCampaign  hS e3).2
  show xm_W _ _ _ 6 _ [.int v1, .ref 302] _
  refine xj_if_eq rfl hf (fun hc4 hf => ?_) (fun hc4 hf => ?_)
  · refine xw_G (pc' := 22) (st' := [.int (0 : Int32), .ref 302]) rfl rfl trivial ?_
    refine xw_G (pc' := 23) (st' := [.int x2, .int (0 : Int32), .ref 302]) rfl rfl trivial ?_
    refine xb_e hf (fun v5 h6 e7 hf => ?_)
    refine xw_S (v := some (.int v5)) rfl (Nat.le_of_ble_eq_true rfl) (Nat.le_of_ble_eq_true rfl) (xm_Rn_le (Nat.le_of_ble_eq_true rfl) (t_X11_isUser  hS e7).1) ?_
    have hS := (t_X11_isUser  hS e7).2
    show xm_W _ _ _ 26 _ [.int v5, .int (0 : Int32), .ref 302] _
    refine xb_e hf (fun v8 h9 e10 hf => ?_)
    refine xw_V (v := some (.int v8)) rfl rfl (xkf (xs_k hS rfl rfl : xm_k h6 302 = (11, 0))) (Nat.le_of_ble_eq_true rfl) (Nat.le_of_ble_eq_true rfl) (xm_Rn_le (Nat.le_of_ble_eq_true rfl) (t_X11_good_  hS e10).1) ?_
    have hS := (t_X11_good_  hS e10).2
    show xm_W _ _ _ 29 _ [.int v8] _
    refine xj_if_eq rfl hf (fun hc11 hf => ?_) (fun hc11 hf => ?_)
    · refine xw_G (pc' := 43) (st' := [.int (0 : Int32)]) rfl rfl trivial ?_
      exact xr_i (inj := xji) rfl rfl rfl rfl hf hQ hS
    · refine xw_G (pc' := 33) (st' := [.ref 302]) rfl rfl trivial ?_
      refine xw_G (pc' := 34) (st' := [.int x1, .ref 302]) rfl rfl trivial ?_
      refine xw_G (pc' := 35) (st' := [.int x2, .int x1, .ref 302]) rfl rfl trivial ?_
      refine xw_G (pc' := 36) (st' := [.int x3, .int x2, .int x1, .ref 302]) rfl rfl trivial ?_
      refine xb_e hf (fun v12 h13 e14 hf => ?_)
      refine xw_V (v := some (.int v12)) rfl rfl (xkf (xs_k hS rfl rfl : xm_k h9 302 = (11, 0))) (Nat.le_of_ble_eq_true rfl) (Nat.le_of_ble_eq_true rfl) (xm_Rn_le (Nat.le_of_ble_eq_true rfl) (t_X11_refusalOf  hS e14).1) ?_
      have hS := (t_X11_refusalOf  hS e14).2
      show xm_W _ _ _ 39 _ [.int v12] _
      refine xw_G (pc' := 43) (st' := [.int v12]) rfl rfl trivial ?_
      exact xr_i (inj := xji) rfl rfl rfl rfl hf hQ hS
  · refine xw_G (pc' := 10) (st' := [.ref 302, .ref 302]) rfl rfl trivial ?_
    refine xw_G (pc' := 11) (st' := [.int x3, .ref 302, .ref 302]) rfl rfl trivial ?_
    refine xb_e hf (fun v15 h16 e17 hf => ?_)
    refine xw_V (v := some (.int v15)) rfl rfl (xkf (xs_k hS rfl rfl : xm_k h2 302 = (11, 0))) (Nat.le_of_ble_eq_true rfl) (Nat.le_of_ble_eq_true rfl) (xm_Rn_le (Nat.le_of_ble_eq_true rfl) (t_X11_isTag  hS e17).1) ?_
    have hS := (t_X11_isTag  hS e17).2
    show xm_W _ _ _ 14 _ [.int v15, .ref 302] _
    refine xj_if_eq rfl hf (fun hc18 hf => ?_) (fun hc18 hf => ?_)
    · refine xw_G (pc' := 22) (st' := [.int (0 : Int32), .ref 302]) rfl rfl trivial ?_
      refine xw_G (pc' := 23) (st' := [.int x2, .int (0 : Int32), .ref 302]) rfl rfl trivial ?_
      refine xb_e hf (fun v19 h20 e21 hf => ?_)
      refine xw_S (v := some (.int v19)) rfl (Nat.le_of_ble_eq_true rfl) (Nat.le_of_ble_eq_true rfl) (xm_Rn_le (Nat.le_of_ble_eq_true rfl) (t_X11_isUser  hS e21).1) ?_
      have hS := (t_X11_isUser  hS e21).2
      show xm_W _ _ _ 26 _ [.int v19, .int (0 : Int32), .ref 302] _
      refine xb_e hf (fun v22 h23 e24 hf => ?_)
      refine xw_V (v := some (.int v22)) rfl rfl (xkf (xs_k hS rfl rfl : xm_k h20 302 = (11, 0))) (Nat.le_of_ble_eq_true rfl) (Nat.le_of_ble_eq_true rfl) (xm_Rn_le (Nat.le_of_ble_eq_true rfl) (t_X11_good_  hS e24).1) ?_
      have hS := (t_X11_good_  hS e24).2
      show xm_W _ _ _ 29 _ [.int v22] _
      refine xj_if_eq rfl hf (fun hc25 hf => ?_) (fun hc25 hf => ?_)
      · refine xw_G (pc' := 43) (st' := [.int (0 : Int32)]) rfl rfl trivial ?_
        exact xr_i (inj := xji) rfl rfl rfl rfl hf hQ hS
      · refine xw_G (pc' := 33) (st' := [.ref 302]) rfl rfl trivial ?_
        refine xw_G (pc' := 34) (st' := [.int x1, .ref 302]) rfl rfl trivial ?_
        refine xw_G (pc' := 35) (st' := [.int x2, .int x1, .ref 302]) rfl rfl trivial ?_
        refine xw_G (pc' := 36) (st' := [.int x3, .int x2, .int x1, .ref 302]) rfl rfl trivial ?_
        refine xb_e hf (fun v26 h27 e28 hf => ?_)
        refine xw_V (v := some (.int v26)) rfl rfl (xkf (xs_k hS rfl rfl : xm_k h23 302 = (11, 0))) (Nat.le_of_ble_eq_true rfl) (Nat.le_of_ble_eq_true rfl) (xm_Rn_le (Nat.le_of_ble_eq_true rfl) (t_X11_refusalOf  hS e28).1) ?_
        have hS := (t_X11_refusalOf  hS e28).2
        show xm_W _ _ _ 39 _ [.int v26] _
        refine xw_G (pc' := 43) (st' := [.int v26]) rfl rfl trivial ?_
        exact xr_i (inj := xji) rfl rfl rfl rfl hf hQ hS
    · refine xw_G (pc' := 18) (st' := [.int (1 : Int32), .ref 302]) rfl rfl trivial ?_
      refine xw_G (pc' := 22) (st' := [.int (1 : Int32), .ref 302]) rfl rfl trivial ?_
      refine xw_G (pc' := 23) (st' := [.int x2, .int (1 : Int32), .ref 302]) rfl rfl trivial ?_
      refine xb_e hf (fun v29 h30 e31 hf => ?_)
      refine xw_S (v := some (.int v29)) rfl (Nat.le_of_ble_eq_true rfl) (Nat.le_of_ble_eq_true rfl) (xm_Rn_le (Nat.le_of_ble_eq_true rfl) (t_X11_isUser  hS e31).1) ?_
      have hS := (t_X11_isUser  hS e31).2
      show xm_W _ _ _ 26 _ [.int v29, .int (1 : Int32), .ref 302] _
      refine xb_e hf (fun v32 h33 e34 hf => ?_)
      refine xw_V (v := some (.int v32)) rfl rfl (xkf (xs_k hS rfl rfl : xm_k h30 302 = (11, 0))) (Nat.le_of_ble_eq_true rfl) (Nat.le_of_ble_eq_true rfl) (xm_Rn_le (Nat.le_of_ble_eq_true rfl) (t_X11_good_  hS e34).1) ?_
      have hS := (t_X11_good_  hS e34).2
      show xm_W _ _ _ 29 _ [.int v32] _
      refine xj_if_eq rfl hf (fun hc35 hf => ?_) (fun hc35 hf => ?_)
      · refine xw_G (pc' := 43) (st' := [.int (0 : Int32)]) rfl rfl trivial ?_
        exact xr_i (inj := xji) rfl rfl rfl rfl hf hQ hS
      · refine xw_G (pc' := 33) (st' := [.ref 302]) rfl rfl trivial ?_
        refine xw_G (pc' := 34) (st' := [.int x1, .ref 302]) rfl rfl trivial ?_
        refine xw_G (pc' := 35) (st' := [.int x2, .int x1, .ref 302]) rfl rfl trivial ?_
        refine xw_G (pc' := 36) (st' := [.int x3, .int x2, .int x1, .ref 302]) rfl rfl trivial ?_
        refine xb_e hf (fun v36 h37 e38 hf => ?_)
        refine xw_V (v := some (.int v36)) rfl rfl (xkf (xs_k hS rfl rfl : xm_k h33 302 = (11, 0))) (Nat.le_of_ble_eq_true rfl) (Nat.le_of_ble_eq_true rfl) (xm_Rn_le (Nat.le_of_ble_eq_true rfl) (t_X11_refusalOf  hS e38).1) ?_
        have hS := (t_X11_refusalOf  hS e38).2
        show xm_W _ _ _ 39 _ [.int v36] _
        refine xw_G (pc' := 43) (st' := [.int v36]) rfl rfl trivial ?_
        exact xr_i (inj := xji) rfl rfl rfl rfl hf hQ hS
def f_X2_insert_5B (N : Nat) (c1 : Int32) (k51 : Int32 → xm_H → Option (Unit × xm_H)) (rec : Int32 → xm_H → Option (Unit × xm_H)) (c2 : Int32) (h : xm_H) : Option (Unit × xm_H) := (if 0 < c2 then (if xin (c2 - (1 : Int32)) 8 then (if xin (xm_i h 217 (Int32.toNatClampNeg (c2 - (1 : Int32)))) 8 then (if xin c1 8 then (if (xm_i h 216 (Int32.toNatClampNeg (xm_i h 217 (Int32.toNatClampNeg (c2 - (1 : Int32)))))) < (xm_i h 216 (Int32.toNatClampNeg c1)) then (if xin c2 8 then (xl (xm_si h 217 (Int32.toNatClampNeg c2) (xm_i h 217 (Int32.toNatClampNeg (c2 - (1 : Int32))))) fun h7 => (rec (c2 + (-1 : Int32)) h7)) else none) else (k51 c2 h)) else none) else none) else none) else (k51 c2 h))
def f_X2_insert_5 (N : Nat) (c1 : Int32) (k51 : Int32 → xm_H → Option (Unit × xm_H)) : Nat → Int32 → xm_H → Option (Unit × xm_H)
  | 0 => fun _ _ => none
  | n + 1 => fun c2 h => f_X2_insert_5B N c1 k51 (f_X2_insert_5 N c1 k51 n) c2 h
def f_X2_insert (N : Nat) (x1 : Int32) (h : xm_H) : Option (Unit × xm_H) := (f_X2_insert_5 N x1 (fun (e1 : Int32) (h2 : xm_H) => (if xin e1 8 then (xl (xm_si h2 217 (Int32.toNatClampNeg e1) x1) fun h4 => (xl (xm_si h4 182 6 ((xm_i h4 182 6) + (1 : Int32))) fun h6 => (some ((), h6)))) else none)) N (xm_i h 182 6) h)
theorem tl_X2_insert_5 {ρ : Nat} {δ : Nat} {N : Nat} {c1 : Int32} {k51 : Int32 → xm_H → Option (Unit × xm_H)} {Q : xm_O → xm_H → Prop} {w : Unit × xm_H}  (hQ : xS ρ δ w.2 → Q (xjv w.1) w.2) (hk51 : ∀ (a0 : Int32) (h : xm_H), xS ρ δ h → k51 a0 h = some w → xm_W (xm_Rn xX 0) xM_X2_insert Q 51 [some (.ref 182), some (.int c1), some (.int a0)] [] h) : ∀ (n : Nat) (c2 : Int32) (h : xm_H), xS ρ δ h → f_X2_insert_5 N c1 k51 n c2 h = some w → xm_W (xm_Rn xX 0) xM_X2_insert Q 5 [some (.ref 182), some (.int c1), some (.int c2)] [] h := by
  intro n
  induction n with
  | zero =>
    intro c2 h hS hf
    exact (xn_e hf).elim
  | succ n ih =>
    intro c2 h hS hf
    replace hf : f_X2_insert_5B N c1 k51 (f_X2_insert_5 N c1 k51 n) c2 h = some w := hf
    unfold f_X2_insert_5B at hf
    refine xw_K (pc' := 6) (ls' := [some (.ref 182), some (.int c1), some (.int c2)]) (st' := [.int c2]) rfl rfl trivial ?_
    refine xj_if_le rfl hf (fun hc1 hf => ?_) (fun hc1 hf => ?_)
    · refine xw_G (pc' := 10) (st' := [.ref 182]) rfl rfl trivial ?_
      refine xw_gr rfl (xkf (xs_k hS rfl rfl : xm_k h 182 = (3, 0))) (xs_r hS rfl) ?_
      refine xw_G (pc' := 14) (st' := [.ref 182, .ref 216]) rfl rfl trivial ?_
      refine xw_gr rfl (xkf (xs_k hS rfl rfl : xm_k h 182 = (3, 0))) (xs_r hS rfl) ?_
      refine xw_G (pc' := 18) (st' := [.int c2, .ref 217, .ref 216]) rfl rfl trivial ?_
      refine xw_G (pc' := 19) (st' := [.int (1 : Int32), .int c2, .ref 217, .ref 216]) rfl rfl trivial ?_
      refine xw_G (pc' := 20) (st' := [.int (c2 - (1 : Int32)), .ref 217, .ref 216]) rfl rfl trivial ?_
      refine xg_e hf (fun hg2 hf => ?_)
      refine xa_ld (t := 100) (τ := 0) (v := .int (xm_i h 217 (Int32.toNatClampNeg (c2 - (1 : Int32))))) rfl rfl (xkf (xs_k hS rfl rfl : xm_k h 217 = (100, 8))) (xkn (xs_k hS rfl rfl : xm_k h 217 = (100, 8))) hg2 rfl ?_
      refine xg_e hf (fun hg3 hf => ?_)
      refine xa_ld (t := 100) (τ := 0) (v := .int (xm_i h 216 (Int32.toNatClampNeg (xm_i h 217 (Int32.toNatClampNeg (c2 - (1 : Int32))))))) rfl rfl (xkf (xs_k hS rfl rfl : xm_k h 216 = (100, 8))) (xkn (xs_k hS rfl rfl : xm_k h 216 = (100, 8))) hg3 rfl ?_
      refine xw_G (pc' := 23) (st' := [.ref 182, .int (xm_i h 216 (Int32.toNatClampNeg (xm_i h 217 (Int32.toNatClampNeg (c2 - (1 : Int32))))))]) rfl rfl trivial ?_
      refine xw_gr rfl (xkf (xs_k hS rfl rfl : xm_k h 182 = (3, 0))) (xs_r hS rfl) ?_
      refine xw_G (pc' := 27) (st' := [.int c1, .ref 216, .int (xm_i h 216 (Int32.toNatClampNeg (xm_i h 217 (Int32.toNatClampNeg (c2 - (1 : Int32))))))]) rfl rfl trivial ?_
      refine xg_e hf (fun hg4 hf => ?_)
      refine xa_ld (t := 100) (τ := 0) (v := .int (xm_i h 216 (Int32.toNatClampNeg c1))) rfl rfl (xkf (xs_k hS rfl rfl : xm_k h 216 = (100, 8))) (xkn (xs_k hS rfl rfl : xm_k h 216 = (100, 8))) hg4 rfl ?_
      refine xj_ic_ge rfl hf (fun hc5 hf => ?_) (fun hc5 hf => ?_)
      · refine xw_G (pc' := 32) (st' := [.ref 182]) rfl rfl trivial ?_
        refine xw_gr rfl (xkf (xs_k hS rfl rfl : xm_k h 182 = (3, 0))) (xs_r hS rfl) ?_
        refine xw_G (pc' := 36) (st' := [.int c2, .ref 217]) rfl rfl trivial ?_
        refine xw_G (pc' := 37) (st' := [.ref 182, .int c2, .ref 217]) rfl rfl trivial ?_
        refine xw_gr rfl (xkf (xs_k hS rfl rfl : xm_k h 182 = (3, 0))) (xs_r hS rfl) ?_
        refine xw_G (pc' := 41) (st' := [.int c2, .ref 217, .int c2, .ref 217]) rfl rfl trivial ?_
        refine xw_G (pc' := 42) (st' := [.int (1 : Int32), .int c2, .ref 217, .int c2, .ref 217]) rfl rfl trivial ?_
        refine xw_G (pc' := 43) (st' := [.int (c2 - (1 : Int32)), .ref 217, .int c2, .ref 217]) rfl rfl trivial ?_
        refine xa_ld (t := 100) (τ := 0) (v := .int (xm_i h 217 (Int32.toNatClampNeg (c2 - (1 : Int32))))) rfl rfl (xkf (xs_k hS rfl rfl : xm_k h 217 = (100, 8))) (xkn (xs_k hS rfl rfl : xm_k h 217 = (100, 8))) hg2 rfl ?_
        refine xg_e hf (fun hg6 hf => ?_)
        refine xa_i rfl (xkf (xs_k hS rfl rfl : xm_k h 217 = (100, 8))) (xkn (xs_k hS rfl rfl : xm_k h 217 = (100, 8))) hg6 (Nat.le_of_ble_eq_true rfl) hf (fun h7 e8 hf => ?_)
        have hS := xS_si hS e8
        refine xw_G (pc' := 48) (ls' := [some (.ref 182), some (.int c1), some (.int (c2 + (-1 : Int32)))]) (st' := []) rfl rfl (Nat.le_of_ble_eq_true rfl) ?_
        refine xw_G (pc' := 5) (st' := []) rfl rfl trivial ?_
        refine xw_M rfl rfl ?_
        exact ih _ _ hS hf
      · refine xw_M rfl rfl ?_
        exact hk51 _ _ hS hf
    · refine xw_M rfl rfl ?_
      exact hk51 _ _ hS hf
theorem t_X2_insert {N : Nat} {ρ : Nat} {δ : Nat} {x1 : Int32} {h : xm_H} {w : Unit × xm_H}  (hS : xS ρ δ h) (hf : f_X2_insert N x1 h = some w) : xm_Rn xX 1 16 [.ref 182, .int x1] h (xjv w.1) w.2 ∧ xS ρ δ w.2 := by
  refine xt_mk (φ := fun h => xS ρ δ h) (M := xM_X2_insert) (ls := [some (.ref 182), some (.int x1), none]) rfl (Nat.le_of_ble_eq_true rfl) rfl (fun Q hQ => ?_)
  unfold f_X2_insert at hf
  refine xw_G (pc' := 1) (st' := [.ref 182]) rfl rfl trivial ?_
  refine xw_G (pc' := 4) (st' := [.int (xm_i h 182 6)]) rfl rfl (xkf (xs_k hS rfl rfl : xm_k h 182 = (3, 0))) ?_
  refine xw_G (pc' := 5) (ls' := [some (.ref 182), some (.int x1), some (.int (xm_i h 182 6))]) (st' := []) rfl rfl (Nat.le_of_ble_eq_true rfl) ?_
  refine xw_M rfl rfl ?_
  refine tl_X2_insert_5  hQ (fun e1 h2 hS hf => ?_) _ _ _ hS hf
  refine xw_K (pc' := 52) (ls' := [some (.ref 182), some (.int x1), some (.int e1)]) (st' := [.ref 182]) rfl rfl trivial ?_
  refine xw_gr rfl (xkf (xs_k hS rfl rfl : xm_k h2 182 = (3, 0))) (xs_r hS rfl) ?_
  refine xw_G (pc' := 56) (st' := [.int e1, .ref 217]) rfl rfl trivial ?_
  refine xw_G (pc' := 57) (st' := [.int x1, .int e1, .ref 217]) rfl rfl trivial ?_
  refine xg_e hf (fun hg3 hf => ?_)
  refine xa_i rfl (xkf (xs_k hS rfl rfl : xm_k h2 217 = (100, 8))) (xkn (xs_k hS rfl rfl : xm_k h2 217 = (100, 8))) hg3 (Nat.le_of_ble_eq_true rfl) hf (fun h4 e5 hf => ?_)
  have hS := xS_si hS e5
  refine xw_G (pc' := 59) (st' := [.ref 182]) rfl rfl trivial ?_
  refine xw_G (pc' := 60) (st' := [.ref 182, .ref 182]) rfl rfl rfl ?_
  refine xw_G (pc' := 63) (st' := [.int (xm_i h4 182 6), .ref 182]) rfl rfl (xkf (xs_k hS rfl rfl : xm_k h4 182 = (3, 0))) ?_
  refine xw_G (pc' := 64) (st' := [.int (1 : Int32), .int (xm_i h4 182 6), .ref 182]) rfl rfl trivial ?_
  refine xw_G (pc' := 65) (st' := [.int ((xm_i h4 182 6) + (1 : Int32)), .ref 182]) rfl rfl trivial ?_
  refine xp_i rfl (xkf (xs_k hS rfl rfl : xm_k h4 182 = (3, 0))) (Nat.le_of_ble_eq_true rfl) hf (fun h6 e7 hf => ?_)
  have hS := xS_si hS e7
  exact xr_v (inj := xjv) rfl rfl hf hQ hS
def f_X2_rank_13B (N : Nat) (ρ : Nat) (c2 : Int32) (c3 : Int32) (rec : Int32 → xm_H → Option (Unit × xm_H)) (c4 : Int32) (h : xm_H) : Option (Unit × xm_H) := (if c4 < (xm_i h ρ 7) then (xb (f_X2_pacedBid c4 h) fun v2 h3 => (if xin c4 8 then (xl (xm_si h3 216 (Int32.toNatClampNeg c4) v2) fun h6 => (xb (f_X2_reasonAgainst ρ c4 c2 (xm_i h6 216 (Int32.toNatClampNeg c4)) c3 h6) fun v8 h9 => (if v8 = 0 then (xb (f_X2_insert N c4 h9) fun v12 h13 => (rec (c4 + (1 : Int32)) h13)) else (rec (c4 + (1 : Int32)) h9)))) else none)) else (some ((), h)))
def f_X2_rank_13 (N : Nat) (ρ : Nat) (c2 : Int32) (c3 : Int32) : Nat → Int32 → xm_H → Option (Unit × xm_H)
  | 0 => fun _ _ => none
  | n + 1 => fun c4 h => f_X2_rank_13B N ρ c2 c3 (f_X2_rank_13 N ρ c2 c3 n) c4 h
def f_X2_rank (N : Nat) (ρ : Nat) (x1 : Int32) (x2 : Int32) (x3 : Int32) (h : xm_H) : Option (Unit × xm_H) := (xb (f_X2_countRecents N ρ x1 h) fun v1 h2 => (xl (xm_si h2 182 6 (0 : Int32)) fun h4 => (f_X2_rank_13 N ρ x2 x3 N (0 : Int32) h4)))
theorem tl_X2_rank_13 {δ : Nat} {N : Nat} {ρ : Nat} {c2 : Int32} {c3 : Int32} {Q : xm_O → xm_H → Prop} {w : Unit × xm_H}  (hQ : xS ρ δ w.2 → Q (xjv w.1) w.2)  : ∀ (n : Nat) (c4 : Int32) (h : xm_H), xS ρ δ h → f_X2_rank_13 N ρ c2 c3 n c4 h = some w → xm_W (xm_Rn xX 2) xM_X2_rank Q 13 [some (.ref 182), none, some (.int c2), some (.int c3), some (.int c4)] [] h := by
  intro n
  induction n with
  | zero =>
    intro c4 h hS hf
    exact (xn_e hf).elim
  | succ n ih =>
    intro c4 h hS hf
    replace hf : f_X2_rank_13B N ρ c2 c3 (f_X2_rank_13 N ρ c2 c3 n) c4 h = some w := hf
    unfold f_X2_rank_13B at hf
    refine xw_K (pc' := 15) (ls' := [some (.ref 182), none, some (.int c2), some (.int c3), some (.int c4)]) (st' := [.int c4]) rfl rfl trivial ?_
    refine xw_G (pc' := 16) (st' := [.ref 182, .int c4]) rfl rfl trivial ?_
    refine xw_gr rfl (xkf (xs_k hS rfl rfl : xm_k h 182 = (3, 0))) (xs_rho hS) ?_
    refine xw_G (pc' := 22) (st' := [.int (xm_i h ρ 7), .int c4]) rfl rfl (xkf (xsR0 hS (xs_R hS))) ?_
    refine xj_ic_ge rfl hf (fun hc1 hf => ?_) (fun hc1 hf => ?_)
    · refine xw_G (pc' := 26) (st' := [.ref 182]) rfl rfl trivial ?_
      refine xw_gr rfl (xkf (xs_k hS rfl rfl : xm_k h 182 = (3, 0))) (xs_r hS rfl) ?_
      refine xw_G (pc' := 31) (st' := [.int c4, .ref 216]) rfl rfl trivial ?_
      refine xw_G (pc' := 32) (st' := [.ref 182, .int c4, .ref 216]) rfl rfl trivial ?_
      refine xw_G (pc' := 34) (st' := [.int c4, .ref 182, .int c4, .ref 216]) rfl rfl trivial ?_
      refine xb_e hf (fun v2 h3 e4 hf => ?_)
      refine xw_V (v := some (.int v2)) rfl rfl (xkf (xs_k hS rfl rfl : xm_k h 182 = (3, 0))) (Nat.le_of_ble_eq_true rfl) (Nat.le_of_ble_eq_true rfl) (xm_Rn_le (Nat.le_of_ble_eq_true rfl) (t_X2_pacedBid  hS e4).1) ?_
      have hS := (t_X2_pacedBid  hS e4).2
      show xm_W _ _ _ 37 _ [.int v2, .int c4, .ref 216] _
      refine xg_e hf (fun hg5 hf => ?_)
      refine xa_i rfl (xkf (xs_k hS rfl rfl : xm_k h3 216 = (100, 8))) (xkn (xs_k hS rfl rfl : xm_k h3 216 = (100, 8))) hg5 (Nat.le_of_ble_eq_true rfl) hf (fun h6 e7 hf => ?_)
      have hS := xS_si hS e7
      refine xw_G (pc' := 39) (st' := [.ref 182]) rfl rfl trivial ?_
      refine xw_G (pc' := 41) (st' := [.int c4, .ref 182]) rfl rfl trivial ?_
      refine xw_G (pc' := 42) (st' := [.int c2, .int c4, .ref 182]) rfl rfl trivial ?_
      refine xw_G (pc' := 43) (st' := [.ref 182, .int c2, .int c4, .ref 182]) rfl rfl trivial ?_
      refine xw_gr rfl (xkf (xs_k hS rfl rfl : xm_k h6 182 = (3, 0))) (xs_r hS rfl) ?_
      refine xw_G (pc' := 48) (st' := [.int c4, .ref 216, .int c2, .int c4, .ref 182]) rfl rfl trivial ?_
      refine xa_ld (t := 100) (τ := 0) (v := .int (xm_i h6 216 (Int32.toNatClampNeg c4))) rfl rfl (xkf (xs_k hS rfl rfl : xm_k h6 216 = (100, 8))) (xkn (xs_k hS rfl rfl : xm_k h6 216 = (100, 8))) hg5 rfl ?_
      refine xw_G (pc' := 50) (st' := [.int c3, .int (xm_i h6 216 (Int32.toNatClampNeg c4)), .int c2, .int c4, .ref 182]) rfl rfl trivial ?_
      refine xb_e hf (fun v8 h9 e10 hf => ?_)
      refine xw_V (v := some (.int v8)) rfl rfl (xkf (xs_k hS rfl rfl : xm_k h6 182 = (3, 0))) (Nat.le_of_ble_eq_true rfl) (Nat.le_of_ble_eq_true rfl) (xm_Rn_le (Nat.le_of_ble_eq_true rfl) (t_X2_reasonAgainst  hS e10).1) ?_
      have hS := (t_X2_reasonAgainst  hS e10).2
      show xm_W _ _ _ 53 _ [.int v8] _
      refine xj_if_ne rfl hf (fun hc11 hf => ?_) (fun hc11 hf => ?_)
      · refine xw_G (pc' := 57) (st' := [.ref 182]) rfl rfl trivial ?_
        refine xw_G (pc' := 59) (st' := [.int c4, .ref 182]) rfl rfl trivial ?_
        refine xb_e hf (fun v12 h13 e14 hf => ?_)
        refine xw_V (v := none) rfl rfl (xkf (xs_k hS rfl rfl : xm_k h9 182 = (3, 0))) (Nat.le_of_ble_eq_true rfl) (Nat.le_of_ble_eq_true rfl) (xm_Rn_le (Nat.le_of_ble_eq_true rfl) (t_X2_insert  hS e14).1) ?_
        have hS := (t_X2_insert  hS e14).2
        show xm_W _ _ _ 62 _ [] _
        refine xw_G (pc' := 65) (ls' := [some (.ref 182), none, some (.int c2), some (.int c3), some (.int (c4 + (1 : Int32)))]) (st' := []) rfl rfl (Nat.le_of_ble_eq_true rfl) ?_
        refine xw_G (pc' := 13) (st' := []) rfl rfl trivial ?_
        refine xw_M rfl rfl ?_
        exact ih _ _ hS hf
      · refine xw_G (pc' := 65) (ls' := [some (.ref 182), none, some (.int c2), some (.int c3), some (.int (c4 + (1 : Int32)))]) (st' := []) rfl rfl (Nat.le_of_ble_eq_true rfl) ?_
        refine xw_G (pc' := 13) (st' := []) rfl rfl trivial ?_
        refine xw_M rfl rfl ?_
        exact ih _ _ hS hf
    · exact xr_v (inj := xjv) rfl rfl hf hQ hS
theorem t_X2_rank {N : Nat} {ρ : Nat} {δ : Nat} {x1 : Int32} {x2 : Int32} {x3 : Int32} {h : xm_H} {w : Unit × xm_H}  (hS : xS ρ δ h) (hf : f_X2_rank N ρ x1 x2 x3 h = some w) : xm_Rn xX 3 15 [.ref 182, .int x1, .int x2, .int x3] h (xjv w.1) w.2 ∧ xS ρ δ w.2 := by
  refine xt_mk (φ := fun h => xS ρ δ h) (M := xM_X2_rank) (ls := [some (.ref 182), some (.int x1), some (.int x2), some (.int x3), none]) rfl (Nat.le_of_ble_eq_true rfl) rfl (fun Q hQ => ?_)
  unfold f_X2_rank at hf
  refine xw_G (pc' := 1) (st' := [.ref 182]) rfl rfl trivial ?_
  refine xw_G (pc' := 2) (st' := [.int x1, .ref 182]) rfl rfl trivial ?_
  refine xb_e hf (fun v1 h2 e3 hf => ?_)
  refine xw_V (v := none) rfl rfl (xkf (xs_k hS rfl rfl : xm_k h 182 = (3, 0))) (Nat.le_of_ble_eq_true rfl) (Nat.le_of_ble_eq_true rfl) (xm_Rn_le (Nat.le_of_ble_eq_true rfl) (t_X2_countRecents  hS e3).1) ?_
  have hS := (t_X2_countRecents  hS e3).2
  show xm_W _ _ _ 5 _ [] _
  refine xw_G (pc' := 6) (st' := [.ref 182]) rfl rfl trivial ?_
  refine xw_G (pc' := 7) (st' := [.int (0 : Int32), .ref 182]) rfl rfl trivial ?_
  refine xp_i rfl (xkf (xs_k hS rfl rfl : xm_k h2 182 = (3, 0))) (Nat.le_of_ble_eq_true rfl) hf (fun h4 e5 hf => ?_)
  have hS := xS_si hS e5
  refine xw_G (pc' := 11) (st' := [.int (0 : Int32)]) rfl rfl trivial ?_
  refine xw_G (pc' := 13) (ls' := [some (.ref 182), some (.int x1), some (.int x2), some (.int x3), some (.int (0 : Int32))]) (st' := []) rfl rfl (Nat.le_of_ble_eq_true rfl) ?_
  refine xw_M rfl rfl ?_
  refine tl_X2_rank_13  hQ  _ _ _ hS hf
def f_X10_ranked (N : Nat) (ρ : Nat) (x1 : Int32) (x2 : Int32) (x3 : Int32) (h : xm_H) : Option ((Int32 ⊕ Nat × Nat) × xm_H) := (xe (f_X10_requireTag ρ x2 h) (fun v1 h2 => (xe (f_X10_requireUser x1 h2) (fun v4 h5 => (if x3 < 0 then (some (.inr (15, xm_n h5), xm_new h5 (15, 0))) else (if xin x2 6 then (xb (f_X2_rank N ρ x1 x2 (xm_i h5 202 (Int32.toNatClampNeg x2)) h5) fun v9 h10 => (if x3 < (xm_i h10 182 6) then (if xin x3 8 then (some (.inl (xm_i h10 217 (Int32.toNatClampNeg x3)), h10)) else none) else (some (.inl (-1 : Int32), h10)))) else none))) (fun q14 h15 => (some (.inr q14, h15))))) (fun q17 h18 => (some (.inr q17, h18))))
theorem t_X10_ranked {N : Nat} {ρ : Nat} {δ : Nat} {x1 : Int32} {x2 : Int32} {x3 : Int32} {h : xm_H} {w : (Int32 ⊕ Nat × Nat) × xm_H}  (hS : xS ρ δ h) (hf : f_X10_ranked N ρ x1 x2 x3 h = some w) : xm_Rn xX 4 90 [.ref 160, .int x1, .int x2, .int x3] h (xti w.1) w.2 ∧ xS ρ δ w.2 := by
  refine xt_mk (φ := fun h => xS ρ δ h) (M := xM_X10_ranked) (ls := [some (.ref 160), some (.int x1), some (.int x2), some (.int x3)]) rfl (Nat.le_of_ble_eq_true rfl) rfl (fun Q hQ => ?_)
  unfold f_X10_ranked at hf
  refine xw_G (pc' := 1) (st' := [.ref 160]) rfl rfl trivial ?_
  refine xw_G (pc' := 2) (st' := [.int x2, .ref 160]) rfl rfl trivial ?_
  refine xe_e hf (fun v1 h2 e3 hf => ?_) (fun q17 h18 e3 hf => ?_)
  · refine xw_V (v := none) rfl rfl (xkf (xs_k hS rfl rfl : xm_k h 160 = (0, 0))) (Nat.le_of_ble_eq_true rfl) (Nat.le_of_ble_eq_true rfl) (xm_Rn_le (Nat.le_of_ble_eq_true rfl) (t_X10_requireTag  hS e3).1) ?_
    have hS := (t_X10_requireTag  hS e3).2
    show xm_W _ _ _ 5 _ [] _
    refine xw_G (pc' := 6) (st' := [.int x1]) rfl rfl trivial ?_
    refine xe_e hf (fun v4 h5 e6 hf => ?_) (fun q14 h15 e6 hf => ?_)
    · refine xw_S (v := none) rfl (Nat.le_of_ble_eq_true rfl) (Nat.le_of_ble_eq_true rfl) (xm_Rn_le (Nat.le_of_ble_eq_true rfl) (t_X10_requireUser  hS e6).1) ?_
      have hS := (t_X10_requireUser  hS e6).2
      show xm_W _ _ _ 9 _ [] _
      refine xw_G (pc' := 10) (st' := [.int x3]) rfl rfl trivial ?_
      refine xj_if_ge rfl hf (fun hc7 hf => ?_) (fun hc7 hf => ?_)
      · exact xr_t (inj := xti) rfl (Nat.le_of_ble_eq_true rfl) rfl hf hQ (xS_new hS rfl)
      · refine xw_G (pc' := 24) (st' := [.ref 160]) rfl rfl trivial ?_
        refine xw_gr rfl (xkf (xs_k hS rfl rfl : xm_k h5 160 = (0, 0))) (xs_r hS rfl) ?_
        refine xw_G (pc' := 28) (st' := [.int x1, .ref 182]) rfl rfl trivial ?_
        refine xw_G (pc' := 29) (st' := [.int x2, .int x1, .ref 182]) rfl rfl trivial ?_
        refine xw_G (pc' := 30) (st' := [.ref 160, .int x2, .int x1, .ref 182]) rfl rfl trivial ?_
        refine xw_gr rfl (xkf (xs_k hS rfl rfl : xm_k h5 160 = (0, 0))) (xs_r hS rfl) ?_
        refine xw_gr rfl (xkf (xs_k hS rfl rfl : xm_k h5 182 = (3, 0))) (xs_r hS rfl) ?_
        refine xw_gr rfl (xkf (xs_k hS rfl rfl : xm_k h5 201 = (8, 0))) (xs_r hS rfl) ?_
        refine xw_G (pc' := 40) (st' := [.int x2, .ref 202, .int x2, .int x1, .ref 182]) rfl rfl trivial ?_
        refine xg_e hf (fun hg8 hf => ?_)
        refine xa_ld (t := 100) (τ := 0) (v := .int (xm_i h5 202 (Int32.toNatClampNeg x2))) rfl rfl (xkf (xs_k hS rfl rfl : xm_k h5 202 = (100, 6))) (xkn (xs_k hS rfl rfl : xm_k h5 202 = (100, 6))) hg8 rfl ?_
        refine xb_e hf (fun v9 h10 e11 hf => ?_)
        refine xw_V (v := none) rfl rfl (xkf (xs_k hS rfl rfl : xm_k h5 182 = (3, 0))) (Nat.le_of_ble_eq_true rfl) (Nat.le_of_ble_eq_true rfl) (xm_Rn_le (Nat.le_of_ble_eq_true rfl) (t_X2_rank  hS e11).1) ?_
        have hS := (t_X2_rank  hS e11).2
        show xm_W _ _ _ 44 _ [] _
        refine xw_G (pc' := 45) (st' := [.int x3]) rfl rfl trivial ?_
        refine xw_G (pc' := 46) (st' := [.ref 160, .int x3]) rfl rfl trivial ?_
        refine xw_gr rfl (xkf (xs_k hS rfl rfl : xm_k h10 160 = (0, 0))) (xs_r hS rfl) ?_
        refine xw_G (pc' := 52) (st' := [.int (xm_i h10 182 6), .int x3]) rfl rfl (xkf (xs_k hS rfl rfl : xm_k h10 182 = (3, 0))) ?_
        refine xj_ic_ge rfl hf (fun hc12 hf => ?_) (fun hc12 hf => ?_)
        · refine xw_G (pc' := 56) (st' := [.ref 160]) rfl rfl trivial ?_
          refine xw_gr rfl (xkf (xs_k hS rfl rfl : xm_k h10 160 = (0, 0))) (xs_r hS rfl) ?_
          refine xw_gr rfl (xkf (xs_k hS rfl rfl : xm_k h10 182 = (3, 0))) (xs_r hS rfl) ?_
          refine xw_G (pc' := 63) (st' := [.int x3, .ref 217]) rfl rfl trivial ?_
          refine xg_e hf (fun hg13 hf => ?_)
          refine xa_ld (t := 100) (τ := 0) (v := .int (xm_i h10 217 (Int32.toNatClampNeg x3))) rfl rfl (xkf (xs_k hS rfl rfl : xm_k h10 217 = (100, 8))) (xkn (xs_k hS rfl rfl : xm_k h10 217 = (100, 8))) hg13 rfl ?_
          refine xw_G (pc' := 68) (st' := [.int (xm_i h10 217 (Int32.toNatClampNeg x3))]) rfl rfl trivial ?_
          exact xr_i (inj := xti) rfl rfl rfl rfl hf hQ hS
        · refine xw_G (pc' := 68) (st' := [.int (-1 : Int32)]) rfl rfl trivial ?_
          exact xr_i (inj := xti) rfl rfl rfl rfl hf hQ hS
    · refine xw_SX (x := q14) rfl (Nat.le_of_ble_eq_true rfl) (Nat.le_of_ble_eq_true rfl) (xm_Rn_le (Nat.le_of_ble_eq_true rfl) (t_X10_requireUser  hS e6).1) rfl ?_
      have hS := (t_X10_requireUser  hS e6).2
      exact xr_x (inj := xti) rfl hf hQ hS
  · refine xw_VX (x := q17) rfl rfl (xkf (xs_k hS rfl rfl : xm_k h 160 = (0, 0))) (Nat.le_of_ble_eq_true rfl) (Nat.le_of_ble_eq_true rfl) (xm_Rn_le (Nat.le_of_ble_eq_true rfl) (t_X10_requireTag  hS e3).1) rfl ?_
    have hS := (t_X10_requireTag  hS e3).2
    exact xr_x (inj := xti) rfl hf hQ hS
def f_L_ranked (N : Nat) (ρ : Nat) (x1 : Int32) (x2 : Int32) (x3 : Int32) (h : xm_H) : Option (Int32 × xm_H) := (xe (f_X10_ranked N ρ x1 x2 x3 h) (fun v1 h2 => (xl (xm_sl h2 316 0 (Int32.toInt64 v1)) fun h4 => (some ((0 : Int32), h4)))) (fun q6 h7 => (if (q6).1 = 14 then (some ((1 : Int32), h7)) else (if (q6).1 = 15 then (some ((2 : Int32), h7)) else none))))
theorem t_L_ranked {N : Nat} {ρ : Nat} {δ : Nat} {x1 : Int32} {x2 : Int32} {x3 : Int32} {h : xm_H} {w : Int32 × xm_H}  (hS : xS ρ δ h) (hf : f_L_ranked N ρ x1 x2 x3 h = some w) : xm_Rn xX 5 337 [.ref 160, .int x1, .int x2, .int x3, .ref 316] h (xji w.1) w.2 ∧ xS ρ δ w.2 := by
  refine xt_mk (φ := fun h => xS ρ δ h) (M := xM_L_ranked) (ls := [some (.ref 160), some (.int x1), some (.int x2), some (.int x3), some (.ref 316), none]) rfl (Nat.le_of_ble_eq_true rfl) rfl (fun Q hQ => ?_)
  unfold f_L_ranked at hf
  refine xw_G (pc' := 2) (st' := [.ref 316]) rfl rfl trivial ?_
  refine xw_G (pc' := 3) (st' := [.int (0 : Int32), .ref 316]) rfl rfl trivial ?_
  refine xw_G (pc' := 4) (st' := [.ref 160, .int (0 : Int32), .ref 316]) rfl rfl trivial ?_
  refine xw_G (pc' := 5) (st' := [.int x1, .ref 160, .int (0 : Int32), .ref 316]) rfl rfl trivial ?_
  refine xw_G (pc' := 6) (st' := [.int x2, .int x1, .ref 160, .int (0 : Int32), .ref 316]) rfl rfl trivial ?_
  refine xw_G (pc' := 7) (st' := [.int x3, .int x2, .int x1, .ref 160, .int (0 : Int32), .ref 316]) rfl rfl trivial ?_
  refine xe_e hf (fun v1 h2 e3 hf => ?_) (fun q6 h7 e3 hf => ?_)
  · refine xw_V (v := some (.int v1)) rfl rfl (xkf (xs_k hS rfl rfl : xm_k h 160 = (0, 0))) (Nat.le_of_ble_eq_true rfl) (Nat.le_of_ble_eq_true rfl) (xm_Rn_le (Nat.le_of_ble_eq_true rfl) (t_X10_ranked  hS e3).1) ?_
    have hS := (t_X10_ranked  hS e3).2
    show xm_W _ _ _ 10 _ [.int v1, .int (0 : Int32), .ref 316] _
    refine xw_G (pc' := 11) (st' := [.long (Int32.toInt64 v1), .int (0 : Int32), .ref 316]) rfl rfl trivial ?_
    refine xa_l rfl (xkf (xs_k hS rfl rfl : xm_k h2 316 = (104, 1))) (xkn (xs_k hS rfl rfl : xm_k h2 316 = (104, 1))) (by decide : xin (0 : Int32) 1) (Nat.le_of_ble_eq_true rfl) hf (fun h4 e5 hf => ?_)
    have hS := xS_sl hS e5
    refine xw_G (pc' := 23) (st' := []) rfl rfl trivial ?_
    refine xw_G (pc' := 24) (st' := [.int (0 : Int32)]) rfl rfl trivial ?_
    exact xr_i (inj := xji) rfl rfl rfl rfl hf hQ hS
  · by_cases hc8 : (q6).1 = 14
    · rw [if_pos hc8] at hf
      refine xw_VH (x := q6) (p := 15) rfl rfl (xkf (xs_k hS rfl rfl : xm_k h 160 = (0, 0))) (Nat.le_of_ble_eq_true rfl) (Nat.le_of_ble_eq_true rfl) (xm_Rn_le (Nat.le_of_ble_eq_true rfl) (t_X10_ranked  hS e3).1) (by rw [hc8]; rfl) ?_
      have hS := (t_X10_ranked  hS e3).2
      refine xw_G (pc' := 17) (ls' := [some (.ref 160), some (.int x1), some (.int x2), some (.int x3), some (.ref 316), some (.ref ((q6).2))]) (st' := []) rfl rfl (Nat.le_of_ble_eq_true rfl) ?_
      refine xw_G (pc' := 18) (st' := [.int (1 : Int32)]) rfl rfl trivial ?_
      exact xr_i (inj := xji) rfl rfl rfl rfl hf hQ hS
    · rw [if_neg hc8] at hf
      by_cases hc8 : (q6).1 = 15
      · rw [if_pos hc8] at hf
        refine xw_VH (x := q6) (p := 19) rfl rfl (xkf (xs_k hS rfl rfl : xm_k h 160 = (0, 0))) (Nat.le_of_ble_eq_true rfl) (Nat.le_of_ble_eq_true rfl) (xm_Rn_le (Nat.le_of_ble_eq_true rfl) (t_X10_ranked  hS e3).1) (by rw [hc8]; rfl) ?_
        have hS := (t_X10_ranked  hS e3).2
        refine xw_G (pc' := 21) (ls' := [some (.ref 160), some (.int x1), some (.int x2), some (.int x3), some (.ref 316), some (.ref ((q6).2))]) (st' := []) rfl rfl (Nat.le_of_ble_eq_true rfl) ?_
        refine xw_G (pc' := 22) (st' := [.int (2 : Int32)]) rfl rfl trivial ?_
        exact xr_i (inj := xji) rfl rfl rfl rfl hf hQ hS
      · rw [if_neg hc8] at hf
        exact (xn_e hf).elim
def f_X11_rankOne_5B (N : Nat) (c1 : Int32) (k49 : Int32 → xm_H → Option (Unit × xm_H)) (rec : Int32 → xm_H → Option (Unit × xm_H)) (c2 : Int32) (h : xm_H) : Option (Unit × xm_H) := (if 0 < c2 then (if xin (c2 - (1 : Int32)) 8 then (xb (f_X11_effective (xm_i h 312 (Int32.toNatClampNeg (c2 - (1 : Int32)))) h) fun v3 h4 => (xb (f_X11_effective c1 h4) fun v6 h7 => (if v3 < v6 then (if xin c2 8 then (xl (xm_si h7 312 (Int32.toNatClampNeg c2) (xm_i h7 312 (Int32.toNatClampNeg (c2 - (1 : Int32))))) fun h11 => (rec (c2 + (-1 : Int32)) h11)) else none) else (k49 c2 h7)))) else none) else (k49 c2 h))
def f_X11_rankOne_5 (N : Nat) (c1 : Int32) (k49 : Int32 → xm_H → Option (Unit × xm_H)) : Nat → Int32 → xm_H → Option (Unit × xm_H)
  | 0 => fun _ _ => none
  | n + 1 => fun c2 h => f_X11_rankOne_5B N c1 k49 (f_X11_rankOne_5 N c1 k49 n) c2 h
def f_X11_rankOne (N : Nat) (x1 : Int32) (h : xm_H) : Option (Unit × xm_H) := (f_X11_rankOne_5 N x1 (fun (e1 : Int32) (h2 : xm_H) => (if xin e1 8 then (xl (xm_si h2 312 (Int32.toNatClampNeg e1) x1) fun h4 => (xl (xm_si h4 302 27 ((xm_i h4 302 27) + (1 : Int32))) fun h6 => (some ((), h6)))) else none)) N (xm_i h 302 27) h)
theorem tl_X11_rankOne_5 {ρ : Nat} {δ : Nat} {N : Nat} {c1 : Int32} {k49 : Int32 → xm_H → Option (Unit × xm_H)} {Q : xm_O → xm_H → Prop} {w : Unit × xm_H}  (hQ : xS ρ δ w.2 → Q (xjv w.1) w.2) (hk49 : ∀ (a0 : Int32) (h : xm_H), xS ρ δ h → k49 a0 h = some w → xm_W (xm_Rn xX 2) xM_X11_rankOne Q 49 [some (.ref 302), some (.int c1), some (.int a0)] [] h) : ∀ (n : Nat) (c2 : Int32) (h : xm_H), xS ρ δ h → f_X11_rankOne_5 N c1 k49 n c2 h = some w → xm_W (xm_Rn xX 2) xM_X11_rankOne Q 5 [some (.ref 302), some (.int c1), some (.int c2)] [] h := by
  intro n
  induction n with
  | zero =>
    intro c2 h hS hf
    exact (xn_e hf).elim
  | succ n ih =>
    intro c2 h hS hf
    replace hf : f_X11_rankOne_5B N c1 k49 (f_X11_rankOne_5 N c1 k49 n) c2 h = some w := hf
    unfold f_X11_rankOne_5B at hf
    refine xw_K (pc' := 6) (ls' := [some (.ref 302), some (.int c1), some (.int c2)]) (st' := [.int c2]) rfl rfl trivial ?_
    refine xj_if_le rfl hf (fun hc1 hf => ?_) (fun hc1 hf => ?_)
    · refine xw_G (pc' := 10) (st' := [.ref 302]) rfl rfl trivial ?_
      refine xw_G (pc' := 11) (st' := [.ref 302, .ref 302]) rfl rfl trivial ?_
      refine xw_gr rfl (xkf (xs_k hS rfl rfl : xm_k h 302 = (11, 0))) (xs_r hS rfl) ?_
      refine xw_G (pc' := 15) (st' := [.int c2, .ref 312, .ref 302]) rfl rfl trivial ?_
      refine xw_G (pc' := 16) (st' := [.int (1 : Int32), .int c2, .ref 312, .ref 302]) rfl rfl trivial ?_
      refine xw_G (pc' := 17) (st' := [.int (c2 - (1 : Int32)), .ref 312, .ref 302]) rfl rfl trivial ?_
      refine xg_e hf (fun hg2 hf => ?_)
      refine xa_ld (t := 100) (τ := 0) (v := .int (xm_i h 312 (Int32.toNatClampNeg (c2 - (1 : Int32))))) rfl rfl (xkf (xs_k hS rfl rfl : xm_k h 312 = (100, 8))) (xkn (xs_k hS rfl rfl : xm_k h 312 = (100, 8))) hg2 rfl ?_
      refine xb_e hf (fun v3 h4 e5 hf => ?_)
      refine xw_V (v := some (.int v3)) rfl rfl (xkf (xs_k hS rfl rfl : xm_k h 302 = (11, 0))) (Nat.le_of_ble_eq_true rfl) (Nat.le_of_ble_eq_true rfl) (xm_Rn_le (Nat.le_of_ble_eq_true rfl) (t_X11_effective  hS e5).1) ?_
      have hS := (t_X11_effective  hS e5).2
      show xm_W _ _ _ 21 _ [.int v3] _
      refine xw_G (pc' := 22) (st' := [.ref 302, .int v3]) rfl rfl trivial ?_
      refine xw_G (pc' := 23) (st' := [.int c1, .ref 302, .int v3]) rfl rfl trivial ?_
      refine xb_e hf (fun v6 h7 e8 hf => ?_)
      refine xw_V (v := some (.int v6)) rfl rfl (xkf (xs_k hS rfl rfl : xm_k h4 302 = (11, 0))) (Nat.le_of_ble_eq_true rfl) (Nat.le_of_ble_eq_true rfl) (xm_Rn_le (Nat.le_of_ble_eq_true rfl) (t_X11_effective  hS e8).1) ?_
      have hS := (t_X11_effective  hS e8).2
      show xm_W _ _ _ 26 _ [.int v6, .int v3] _
      refine xj_ic_ge rfl hf (fun hc9 hf => ?_) (fun hc9 hf => ?_)
      · refine xw_G (pc' := 30) (st' := [.ref 302]) rfl rfl trivial ?_
        refine xw_gr rfl (xkf (xs_k hS rfl rfl : xm_k h7 302 = (11, 0))) (xs_r hS rfl) ?_
        refine xw_G (pc' := 34) (st' := [.int c2, .ref 312]) rfl rfl trivial ?_
        refine xw_G (pc' := 35) (st' := [.ref 302, .int c2, .ref 312]) rfl rfl trivial ?_
        refine xw_gr rfl (xkf (xs_k hS rfl rfl : xm_k h7 302 = (11, 0))) (xs_r hS rfl) ?_
        refine xw_G (pc' := 39) (st' := [.int c2, .ref 312, .int c2, .ref 312]) rfl rfl trivial ?_
        refine xw_G (pc' := 40) (st' := [.int (1 : Int32), .int c2, .ref 312, .int c2, .ref 312]) rfl rfl trivial ?_
        refine xw_G (pc' := 41) (st' := [.int (c2 - (1 : Int32)), .ref 312, .int c2, .ref 312]) rfl rfl trivial ?_
        refine xa_ld (t := 100) (τ := 0) (v := .int (xm_i h7 312 (Int32.toNatClampNeg (c2 - (1 : Int32))))) rfl rfl (xkf (xs_k hS rfl rfl : xm_k h7 312 = (100, 8))) (xkn (xs_k hS rfl rfl : xm_k h7 312 = (100, 8))) hg2 rfl ?_
        refine xg_e hf (fun hg10 hf => ?_)
        refine xa_i rfl (xkf (xs_k hS rfl rfl : xm_k h7 312 = (100, 8))) (xkn (xs_k hS rfl rfl : xm_k h7 312 = (100, 8))) hg10 (Nat.le_of_ble_eq_true rfl) hf (fun h11 e12 hf => ?_)
        have hS := xS_si hS e12
        refine xw_G (pc' := 46) (ls' := [some (.ref 302), some (.int c1), some (.int (c2 + (-1 : Int32)))]) (st' := []) rfl rfl (Nat.le_of_ble_eq_true rfl) ?_
        refine xw_G (pc' := 5) (st' := []) rfl rfl trivial ?_
        refine xw_M rfl rfl ?_
        exact ih _ _ hS hf
      · refine xw_M rfl rfl ?_
        exact hk49 _ _ hS hf
    · refine xw_M rfl rfl ?_
      exact hk49 _ _ hS hf
theorem t_X11_rankOne {N : Nat} {ρ : Nat} {δ : Nat} {x1 : Int32} {h : xm_H} {w : Unit × xm_H}  (hS : xS ρ δ h) (hf : f_X11_rankOne N x1 h = some w) : xm_Rn xX 3 192 [.ref 302, .int x1] h (xjv w.1) w.2 ∧ xS ρ δ w.2 := by
  refine xt_mk (φ := fun h => xS ρ δ h) (M := xM_X11_rankOne) (ls := [some (.ref 302), some (.int x1), none]) rfl (Nat.le_of_ble_eq_true rfl) rfl (fun Q hQ => ?_)
  unfold f_X11_rankOne at hf
  refine xw_G (pc' := 1) (st' := [.ref 302]) rfl rfl trivial ?_
  refine xw_G (pc' := 4) (st' := [.int (xm_i h 302 27)]) rfl rfl (xkf (xs_k hS rfl rfl : xm_k h 302 = (11, 0))) ?_
  refine xw_G (pc' := 5) (ls' := [some (.ref 302), some (.int x1), some (.int (xm_i h 302 27))]) (st' := []) rfl rfl (Nat.le_of_ble_eq_true rfl) ?_
  refine xw_M rfl rfl ?_
  refine tl_X11_rankOne_5  hQ (fun e1 h2 hS hf => ?_) _ _ _ hS hf
  refine xw_K (pc' := 50) (ls' := [some (.ref 302), some (.int x1), some (.int e1)]) (st' := [.ref 302]) rfl rfl trivial ?_
  refine xw_gr rfl (xkf (xs_k hS rfl rfl : xm_k h2 302 = (11, 0))) (xs_r hS rfl) ?_
  refine xw_G (pc' := 54) (st' := [.int e1, .ref 312]) rfl rfl trivial ?_
  refine xw_G (pc' := 55) (st' := [.int x1, .int e1, .ref 312]) rfl rfl trivial ?_
  refine xg_e hf (fun hg3 hf => ?_)
  refine xa_i rfl (xkf (xs_k hS rfl rfl : xm_k h2 312 = (100, 8))) (xkn (xs_k hS rfl rfl : xm_k h2 312 = (100, 8))) hg3 (Nat.le_of_ble_eq_true rfl) hf (fun h4 e5 hf => ?_)
  have hS := xS_si hS e5
  refine xw_G (pc' := 57) (st' := [.ref 302]) rfl rfl trivial ?_
  refine xw_G (pc' := 58) (st' := [.ref 302, .ref 302]) rfl rfl rfl ?_
  refine xw_G (pc' := 61) (st' := [.int (xm_i h4 302 27), .ref 302]) rfl rfl (xkf (xs_k hS rfl rfl : xm_k h4 302 = (11, 0))) ?_
  refine xw_G (pc' := 62) (st' := [.int (1 : Int32), .int (xm_i h4 302 27), .ref 302]) rfl rfl trivial ?_
  refine xw_G (pc' := 63) (st' := [.int ((xm_i h4 302 27) + (1 : Int32)), .ref 302]) rfl rfl trivial ?_
  refine xp_i rfl (xkf (xs_k hS rfl rfl : xm_k h4 302 = (11, 0))) (Nat.le_of_ble_eq_true rfl) hf (fun h6 e7 hf => ?_)
  have hS := xS_si hS e7
  exact xr_v (inj := xjv) rfl rfl hf hQ hS
def f_X11_isApart_29B (N : Nat) (c1 : Int32) (c3 : Int32) (c4 : Int32) (k91 : Int32 → xm_H → Option (Int32 × xm_H)) (rec : Int32 → Int32 → xm_H → Option (Int32 × xm_H)) (c2 : Int32) (c5 : Int32) (h : xm_H) : Option (Int32 × xm_H) := (if c5 < (xm_i h 302 28) then (if c2 = 0 then (if ((c4 >>> (c1 &&& 31)) &&& (1 : Int32)) = (1 : Int32) then (if xin c5 4 then (if ((c4 >>> ((xm_i h 313 (Int32.toNatClampNeg c5)) &&& 31)) &&& (1 : Int32)) = (1 : Int32) then (if (xm_i h 313 (Int32.toNatClampNeg c5)) = c1 then (rec (0 : Int32) (c5 + (1 : Int32)) h) else (rec (1 : Int32) (c5 + (1 : Int32)) h)) else (rec (0 : Int32) (c5 + (1 : Int32)) h)) else none) else (rec (0 : Int32) (c5 + (1 : Int32)) h)) else (rec (1 : Int32) (c5 + (1 : Int32)) h)) else (k91 c2 h))
def f_X11_isApart_29 (N : Nat) (c1 : Int32) (c3 : Int32) (c4 : Int32) (k91 : Int32 → xm_H → Option (Int32 × xm_H)) : Nat → Int32 → Int32 → xm_H → Option (Int32 × xm_H)
  | 0 => fun _ _ _ => none
  | n + 1 => fun c2 c5 h => f_X11_isApart_29B N c1 c3 c4 k91 (f_X11_isApart_29 N c1 c3 c4 k91 n) c2 c5 h
def f_X11_isApart_4B (N : Nat) (c1 : Int32) (rec : Int32 → Int32 → xm_H → Option (Int32 × xm_H)) (c2 : Int32) (c3 : Int32) (h : xm_H) : Option (Int32 × xm_H) := (if c3 < (xm_i h 308 63) then (if xin ((64 : Int32) + c3) 72 then (f_X11_isApart_29 N c1 c3 (xm_i h 308 (Int32.toNatClampNeg ((64 : Int32) + c3))) (fun (e3 : Int32) (h4 : xm_H) => (rec e3 (c3 + (1 : Int32)) h4)) N c2 (0 : Int32) h) else none) else (if c2 = 0 ∨ c2 = 1 then (some (c2, h)) else none))
def f_X11_isApart_4 (N : Nat) (c1 : Int32) : Nat → Int32 → Int32 → xm_H → Option (Int32 × xm_H)
  | 0 => fun _ _ _ => none
  | n + 1 => fun c2 c3 h => f_X11_isApart_4B N c1 (f_X11_isApart_4 N c1 n) c2 c3 h
def f_X11_isApart (N : Nat) (x1 : Int32) (h : xm_H) : Option (Int32 × xm_H) := (f_X11_isApart_4 N x1 N (0 : Int32) (0 : Int32) h)
theorem tl_X11_isApart_29 {ρ : Nat} {δ : Nat} {N : Nat} {c1 : Int32} {c3 : Int32} {c4 : Int32} {k91 : Int32 → xm_H → Option (Int32 × xm_H)} {Q : xm_O → xm_H → Prop} {w : Int32 × xm_H}  (hQ : xS ρ δ w.2 → Q (xji w.1) w.2) (hk91 : ∀ (a0 : Int32) (h : xm_H), xS ρ δ h → k91 a0 h = some w → xm_W (xm_Rn xX 0) xM_X11_isApart Q 91 [some (.ref 302), some (.int c1), some (.int a0), some (.int c3), none, none] [] h) : ∀ (n : Nat) (c2 : Int32) (c5 : Int32) (h : xm_H), xS ρ δ h → f_X11_isApart_29 N c1 c3 c4 k91 n c2 c5 h = some w → xm_W (xm_Rn xX 0) xM_X11_isApart Q 29 [some (.ref 302), some (.int c1), some (.int c2), some (.int c3), some (.int c4), some (.int c5)] [] h := by
  intro n
  induction n with
  | zero =>
    intro c2 c5 h hS hf
    exact (xn_e hf).elim
  | succ n ih =>
    intro c2 c5 h hS hf
    replace hf : f_X11_isApart_29B N c1 c3 c4 k91 (f_X11_isApart_29 N c1 c3 c4 k91 n) c2 c5 h = some w := hf
    unfold f_X11_isApart_29B at hf
    refine xw_K (pc' := 31) (ls' := [some (.ref 302), some (.int c1), some (.int c2), some (.int c3), some (.int c4), some (.int c5)]) (st' := [.int c5]) rfl rfl trivial ?_
    refine xw_G (pc' := 32) (st' := [.ref 302, .int c5]) rfl rfl trivial ?_
    refine xw_G (pc' := 35) (st' := [.int (xm_i h 302 28), .int c5]) rfl rfl (xkf (xs_k hS rfl rfl : xm_k h 302 = (11, 0))) ?_
    refine xj_ic_ge rfl hf (fun hc1 hf => ?_) (fun hc1 hf => ?_)
    · refine xw_G (pc' := 39) (st' := [.int c2]) rfl rfl trivial ?_
      refine xj_if_ne rfl hf (fun hc2 hf => ?_) (fun hc2 hf => ?_)
      · refine xw_G (pc' := 44) (st' := [.int c4]) rfl rfl trivial ?_
        refine xw_G (pc' := 45) (st' := [.int c1, .int c4]) rfl rfl trivial ?_
        refine xw_G (pc' := 46) (st' := [.int (c4 >>> (c1 &&& 31))]) rfl rfl trivial ?_
        refine xw_G (pc' := 47) (st' := [.int (1 : Int32), .int (c4 >>> (c1 &&& 31))]) rfl rfl trivial ?_
        refine xw_G (pc' := 48) (st' := [.int ((c4 >>> (c1 &&& 31)) &&& (1 : Int32))]) rfl rfl trivial ?_
        refine xw_G (pc' := 49) (st' := [.int (1 : Int32), .int ((c4 >>> (c1 &&& 31)) &&& (1 : Int32))]) rfl rfl trivial ?_
        refine xj_ic_ne rfl hf (fun hc3 hf => ?_) (fun hc3 hf => ?_)
        · refine xw_G (pc' := 54) (st' := [.int c4]) rfl rfl trivial ?_
          refine xw_G (pc' := 55) (st' := [.ref 302, .int c4]) rfl rfl trivial ?_
          refine xw_gr rfl (xkf (xs_k hS rfl rfl : xm_k h 302 = (11, 0))) (xs_r hS rfl) ?_
          refine xw_G (pc' := 60) (st' := [.int c5, .ref 313, .int c4]) rfl rfl trivial ?_
          refine xg_e hf (fun hg4 hf => ?_)
          refine xa_ld (t := 100) (τ := 0) (v := .int (xm_i h 313 (Int32.toNatClampNeg c5))) rfl rfl (xkf (xs_k hS rfl rfl : xm_k h 313 = (100, 4))) (xkn (xs_k hS rfl rfl : xm_k h 313 = (100, 4))) hg4 rfl ?_
          refine xw_G (pc' := 62) (st' := [.int (c4 >>> ((xm_i h 313 (Int32.toNatClampNeg c5)) &&& 31))]) rfl rfl trivial ?_
          refine xw_G (pc' := 63) (st' := [.int (1 : Int32), .int (c4 >>> ((xm_i h 313 (Int32.toNatClampNeg c5)) &&& 31))]) rfl rfl trivial ?_
          refine xw_G (pc' := 64) (st' := [.int ((c4 >>> ((xm_i h 313 (Int32.toNatClampNeg c5)) &&& 31)) &&& (1 : Int32))]) rfl rfl trivial ?_
          refine xw_G (pc' := 65) (st' := [.int (1 : Int32), .int ((c4 >>> ((xm_i h 313 (Int32.toNatClampNeg c5)) &&& 31)) &&& (1 : Int32))]) rfl rfl trivial ?_
          refine xj_ic_ne rfl hf (fun hc5 hf => ?_) (fun hc5 hf => ?_)
          · refine xw_G (pc' := 69) (st' := [.ref 302]) rfl rfl trivial ?_
            refine xw_gr rfl (xkf (xs_k hS rfl rfl : xm_k h 302 = (11, 0))) (xs_r hS rfl) ?_
            refine xw_G (pc' := 74) (st' := [.int c5, .ref 313]) rfl rfl trivial ?_
            refine xa_ld (t := 100) (τ := 0) (v := .int (xm_i h 313 (Int32.toNatClampNeg c5))) rfl rfl (xkf (xs_k hS rfl rfl : xm_k h 313 = (100, 4))) (xkn (xs_k hS rfl rfl : xm_k h 313 = (100, 4))) hg4 rfl ?_
            refine xw_G (pc' := 76) (st' := [.int c1, .int (xm_i h 313 (Int32.toNatClampNeg c5))]) rfl rfl trivial ?_
            refine xj_ic_eq rfl hf (fun hc6 hf => ?_) (fun hc6 hf => ?_)
            · refine xw_G (pc' := 84) (st' := [.int (0 : Int32)]) rfl rfl trivial ?_
              refine xw_G (pc' := 85) (ls' := [some (.ref 302), some (.int c1), some (.int (0 : Int32)), some (.int c3), some (.int c4), some (.int c5)]) (st' := []) rfl rfl (Nat.le_of_ble_eq_true rfl) ?_
              refine xw_G (pc' := 88) (ls' := [some (.ref 302), some (.int c1), some (.int (0 : Int32)), some (.int c3), some (.int c4), some (.int (c5 + (1 : Int32)))]) (st' := []) rfl rfl (Nat.le_of_ble_eq_true rfl) ?_
              refine xw_G (pc' := 29) (st' := []) rfl rfl trivial ?_
              refine xw_M rfl rfl ?_
              exact ih _ _ _ hS hf
            · refine xw_G (pc' := 80) (st' := [.int (1 : Int32)]) rfl rfl trivial ?_
              refine xw_G (pc' := 84) (st' := [.int (1 : Int32)]) rfl rfl trivial ?_
              refine xw_G (pc' := 85) (ls' := [some (.ref 302), some (.int c1), some (.int (1 : Int32)), some (.int c3), some (.int c4), some (.int c5)]) (st' := []) rfl rfl (Nat.le_of_ble_eq_true rfl) ?_
              refine xw_G (pc' := 88) (ls' := [some (.ref 302), some (.int c1), some (.int (1 : Int32)), some (.int c3), some (.int c4), some (.int (c5 + (1 : Int32)))]) (st' := []) rfl rfl (Nat.le_of_ble_eq_true rfl) ?_
              refine xw_G (pc' := 29) (st' := []) rfl rfl trivial ?_
              refine xw_M rfl rfl ?_
              exact ih _ _ _ hS hf
          · refine xw_G (pc' := 84) (st' := [.int (0 : Int32)]) rfl rfl trivial ?_
            refine xw_G (pc' := 85) (ls' := [some (.ref 302), some (.int c1), some (.int (0 : Int32)), some (.int c3), some (.int c4), some (.int c5)]) (st' := []) rfl rfl (Nat.le_of_ble_eq_true rfl) ?_
            refine xw_G (pc' := 88) (ls' := [some (.ref 302), some (.int c1), some (.int (0 : Int32)), some (.int c3), some (.int c4), some (.int (c5 + (1 : Int32)))]) (st' := []) rfl rfl (Nat.le_of_ble_eq_true rfl) ?_
            refine xw_G (pc' := 29) (st' := []) rfl rfl trivial ?_
            refine xw_M rfl rfl ?_
            exact ih _ _ _ hS hf
        · refine xw_G (pc' := 84) (st' := [.int (0 : Int32)]) rfl rfl trivial ?_
          refine xw_G (pc' := 85) (ls' := [some (.ref 302), some (.int c1), some (.int (0 : Int32)), some (.int c3), some (.int c4), some (.int c5)]) (st' := []) rfl rfl (Nat.le_of_ble_eq_true rfl) ?_
          refine xw_G (pc' := 88) (ls' := [some (.ref 302), some (.int c1), some (.int (0 : Int32)), some (.int c3), some (.int c4), some (.int (c5 + (1 : Int32)))]) (st' := []) rfl rfl (Nat.le_of_ble_eq_true rfl) ?_
          refine xw_G (pc' := 29) (st' := []) rfl rfl trivial ?_
          refine xw_M rfl rfl ?_
          exact ih _ _ _ hS hf
      · refine xw_G (pc' := 80) (st' := [.int (1 : Int32)]) rfl rfl trivial ?_
        refine xw_G (pc' := 84) (st' := [.int (1 : Int32)]) rfl rfl trivial ?_
        refine xw_G (pc' := 85) (ls' := [some (.ref 302), some (.int c1), some (.int (1 : Int32)), some (.int c3), some (.int c4), some (.int c5)]) (st' := []) rfl rfl (Nat.le_of_ble_eq_true rfl) ?_
        refine xw_G (pc' := 88) (ls' := [some (.ref 302), some (.int c1), some (.int (1 : Int32)), some (.int c3), some (.int c4), some (.int (c5 + (1 : Int32)))]) (st' := []) rfl rfl (Nat.le_of_ble_eq_true rfl) ?_
        refine xw_G (pc' := 29) (st' := []) rfl rfl trivial ?_
        refine xw_M rfl rfl ?_
        exact ih _ _ _ hS hf
    · refine xw_M rfl rfl ?_
      exact hk91 _ _ hS hf
theorem tl_X11_isApart_4 {ρ : Nat} {δ : Nat} {N : Nat} {c1 : Int32} {Q : xm_O → xm_H → Prop} {w : Int32 × xm_H}  (hQ : xS ρ δ w.2 → Q (xji w.1) w.2)  : ∀ (n : Nat) (c2 : Int32) (c3 : Int32) (h : xm_H), xS ρ δ h → f_X11_isApart_4 N c1 n c2 c3 h = some w → xm_W (xm_Rn xX 0) xM_X11_isApart Q 4 [some (.ref 302), some (.int c1), some (.int c2), some (.int c3), none, none] [] h := by
  intro n
  induction n with
  | zero =>
    intro c2 c3 h hS hf
    exact (xn_e hf).elim
  | succ n ih =>
    intro c2 c3 h hS hf
    replace hf : f_X11_isApart_4B N c1 (f_X11_isApart_4 N c1 n) c2 c3 h = some w := hf
    unfold f_X11_isApart_4B at hf
    refine xw_K (pc' := 5) (ls' := [some (.ref 302), some (.int c1), some (.int c2), some (.int c3), none, none]) (st' := [.int c3]) rfl rfl trivial ?_
    refine xw_G (pc' := 6) (st' := [.ref 302, .int c3]) rfl rfl trivial ?_
    refine xw_gr rfl (xkf (xs_k hS rfl rfl : xm_k h 302 = (11, 0))) (xs_r hS rfl) ?_
    refine xw_G (pc' := 11) (st' := [.int (63 : Int32), .ref 308, .int c3]) rfl rfl trivial ?_
    refine xa_ld (t := 100) (τ := 0) (v := .int (xm_i h 308 63)) rfl rfl (xkf (xs_k hS rfl rfl : xm_k h 308 = (100, 72))) (xkn (xs_k hS rfl rfl : xm_k h 308 = (100, 72))) (by decide : xin (63 : Int32) 72) rfl ?_
    refine xj_ic_ge rfl hf (fun hc1 hf => ?_) (fun hc1 hf => ?_)
    · refine xw_G (pc' := 16) (st' := [.ref 302]) rfl rfl trivial ?_
      refine xw_gr rfl (xkf (xs_k hS rfl rfl : xm_k h 302 = (11, 0))) (xs_r hS rfl) ?_
      refine xw_G (pc' := 21) (st' := [.int (64 : Int32), .ref 308]) rfl rfl trivial ?_
      refine xw_G (pc' := 22) (st' := [.int c3, .int (64 : Int32), .ref 308]) rfl rfl trivial ?_
      refine xw_G (pc' := 23) (st' := [.int ((64 : Int32) + c3), .ref 308]) rfl rfl trivial ?_
      refine xg_e hf (fun hg2 hf => ?_)
      refine xa_ld (t := 100) (τ := 0) (v := .int (xm_i h 308 (Int32.toNatClampNeg ((64 : Int32) + c3)))) rfl rfl (xkf (xs_k hS rfl rfl : xm_k h 308 = (100, 72))) (xkn (xs_k hS rfl rfl : xm_k h 308 = (100, 72))) hg2 rfl ?_
      refine xw_G (pc' := 26) (ls' := [some (.ref 302), some (.int c1), some (.int c2), some (.int c3), some (.int (xm_i h 308 (Int32.toNatClampNeg ((64 : Int32) + c3)))), none]) (st' := []) rfl rfl (Nat.le_of_ble_eq_true rfl) ?_
      refine xw_G (pc' := 27) (st' := [.int (0 : Int32)]) rfl rfl trivial ?_
      refine xw_G (pc' := 29) (ls' := [some (.ref 302), some (.int c1), some (.int c2), some (.int c3), some (.int (xm_i h 308 (Int32.toNatClampNeg ((64 : Int32) + c3)))), some (.int (0 : Int32))]) (st' := []) rfl rfl (Nat.le_of_ble_eq_true rfl) ?_
      refine xw_M rfl rfl ?_
      refine tl_X11_isApart_29  hQ (fun e3 h4 hS hf => ?_) _ _ _ _ hS hf
      refine xw_K (pc' := 94) (ls' := [some (.ref 302), some (.int c1), some (.int e3), some (.int (c3 + (1 : Int32))), none, none]) (st' := []) rfl rfl (Nat.le_of_ble_eq_true rfl) ?_
      refine xw_G (pc' := 4) (st' := []) rfl rfl trivial ?_
      refine xw_M rfl rfl ?_
      exact ih _ _ _ hS hf
    · refine xw_G (pc' := 98) (st' := [.int c2]) rfl rfl trivial ?_
      refine xg_e hf (fun hg5 hf => ?_)
      exact xr_i (inj := xji) rfl rfl (xnar_z hg5).1 rfl hf hQ hS
theorem t_X11_isApart {N : Nat} {ρ : Nat} {δ : Nat} {x1 : Int32} {h : xm_H} {w : Int32 × xm_H}  (hS : xS ρ δ h) (hf : f_X11_isApart N x1 h = some w) : xm_Rn xX 1 193 [.ref 302, .int x1] h (xji w.1) w.2 ∧ xS ρ δ w.2 := by
  refine xt_mk (φ := fun h => xS ρ δ h) (M := xM_X11_isApart) (ls := [some (.ref 302), some (.int x1), none, none, none, none]) rfl (Nat.le_of_ble_eq_true rfl) rfl (fun Q hQ => ?_)
  unfold f_X11_isApart at hf
  refine xw_G (pc' := 1) (st' := [.int (0 : Int32)]) rfl rfl trivial ?_
  refine xw_G (pc' := 2) (ls' := [some (.ref 302), some (.int x1), some (.int (0 : Int32)), none, none, none]) (st' := []) rfl rfl (Nat.le_of_ble_eq_true rfl) ?_
  refine xw_G (pc' := 3) (st' := [.int (0 : Int32)]) rfl rfl trivial ?_
  refine xw_G (pc' := 4) (ls' := [some (.ref 302), some (.int x1), some (.int (0 : Int32)), some (.int (0 : Int32)), none, none]) (st' := []) rfl rfl (Nat.le_of_ble_eq_true rfl) ?_
  refine xw_M rfl rfl ?_
  refine tl_X11_isApart_4  hQ  _ _ _ _ hS hf
def f_X11_priceOf (x1 : Int32) (x2 : Int32) (x3 : Int32) (h : xm_H) : Option (Int32 × xm_H) := (if (x1 + (1 : Int32)) < (xm_i h 302 27) then (if xin (x1 + (1 : Int32)) 8 then (xb (f_X11_effective (xm_i h 312 (Int32.toNatClampNeg (x1 + (1 : Int32)))) h) fun v3 h4 => (if xin ((51 : Int32) + x2) 2217 then (if xin ((3 : Int32) + x3) 72 then (some ((((if (xm_i h4 303 (Int32.toNatClampNeg ((51 : Int32) + x2))) < v3 then v3 else (xm_i h4 303 (Int32.toNatClampNeg ((51 : Int32) + x2)))) * (xm_i h4 308 (Int32.toNatClampNeg ((3 : Int32) + x3)))) + (99 : Int32)) / (100 : Int32), h4)) else none) else none)) else none) else (if xin ((51 : Int32) + x2) 2217 then (if xin ((3 : Int32) + x3) 72 then (some ((((if (xm_i h 303 (Int32.toNatClampNeg ((51 : Int32) + x2))) < (0 : Int32) then (0 : Int32) else (xm_i h 303 (Int32.toNatClampNeg ((51 : Int32) + x2)))) * (xm_i h 308 (Int32.toNatClampNeg ((3 : Int32) + x3)))) + (99 : Int32)) / (100 : Int32), h)) else none) else none))
theorem t_X11_priceOf {ρ : Nat} {δ : Nat} {x1 : Int32} {x2 : Int32} {x3 : Int32} {h : xm_H} {w : Int32 × xm_H}  (hS : xS ρ δ h) (hf : f_X11_priceOf x1 x2 x3 h = some w) : xm_Rn xX 3 194 [.ref 302, .int x1, .int x2, .int x3] h (xji w.1) w.2 ∧ xS ρ δ w.2 := by
  refine xt_mk (φ := fun h => xS ρ δ h) (M := xM_X11_priceOf) (ls := [some (.ref 302), some (.int x1), some (.int x2), some (.int x3), none, none]) rfl (Nat.le_of_ble_eq_true rfl) rfl (fun Q hQ => ?_)
  unfold f_X11_priceOf at hf
  refine xw_G (pc' := 1) (st' := [.int x1]) rfl rfl trivial ?_
  refine xw_G (pc' := 2) (st' := [.int (1 : Int32), .int x1]) rfl rfl trivial ?_
  refine xw_G (pc' := 3) (st' := [.int (x1 + (1 : Int32))]) rfl rfl trivial ?_
  refine xw_G (pc' := 4) (st' := [.ref 302, .int (x1 + (1 : Int32))]) rfl rfl trivial ?_
  refine xw_G (pc' := 7) (st' := [.int (xm_i h 302 27), .int (x1 + (1 : Int32))]) rfl rfl (xkf (xs_k hS rfl rfl : xm_k h 302 = (11, 0))) ?_
  refine xj_ic_ge rfl hf (fun hc1 hf => ?_) (fun hc1 hf => ?_)
  · refine xw_G (pc' := 11) (st' := [.ref 302]) rfl rfl trivial ?_
    refine xw_G (pc' := 12) (st' := [.ref 302, .ref 302]) rfl rfl trivial ?_
    refine xw_gr rfl (xkf (xs_k hS rfl rfl : xm_k h 302 = (11, 0))) (xs_r hS rfl) ?_
    refine xw_G (pc' := 16) (st' := [.int x1, .ref 312, .ref 302]) rfl rfl trivial ?_
    refine xw_G (pc' := 17) (st' := [.int (1 : Int32), .int x1, .ref 312, .ref 302]) rfl rfl trivial ?_
    refine xw_G (pc' := 18) (st' := [.int (x1 + (1 : Int32)), .ref 312, .ref 302]) rfl rfl trivial ?_
    refine xg_e hf (fun hg2 hf => ?_)
    refine xa_ld (t := 100) (τ := 0) (v := .int (xm_i h 312 (Int32.toNatClampNeg (x1 + (1 : Int32))))) rfl rfl (xkf (xs_k hS rfl rfl : xm_k h 312 = (100, 8))) (xkn (xs_k hS rfl rfl : xm_k h 312 = (100, 8))) hg2 rfl ?_
    refine xb_e hf (fun v3 h4 e5 hf => ?_)
    refine xw_V (v := some (.int v3)) rfl rfl (xkf (xs_k hS rfl rfl : xm_k h 302 = (11, 0))) (Nat.le_of_ble_eq_true rfl) (Nat.le_of_ble_eq_true rfl) (xm_Rn_le (Nat.le_of_ble_eq_true rfl) (t_X11_effective  hS e5).1) ?_
    have hS := (t_X11_effective  hS e5).2
    show xm_W _ _ _ 22 _ [.int v3] _
    refine xw_G (pc' := 26) (st' := [.int v3]) rfl rfl trivial ?_
    refine xw_G (pc' := 28) (ls' := [some (.ref 302), some (.int x1), some (.int x2), some (.int x3), some (.int v3), none]) (st' := []) rfl rfl (Nat.le_of_ble_eq_true rfl) ?_
    refine xw_G (pc' := 29) (st' := [.ref 302]) rfl rfl trivial ?_
    refine xw_gr rfl (xkf (xs_k hS rfl rfl : xm_k h4 302 = (11, 0))) (xs_r hS rfl) ?_
    refine xw_G (pc' := 34) (st' := [.int (51 : Int32), .ref 303]) rfl rfl trivial ?_
    refine xw_G (pc' := 35) (st' := [.int x2, .int (51 : Int32), .ref 303]) rfl rfl trivial ?_
    refine xw_G (pc' := 36) (st' := [.int ((51 : Int32) + x2), .ref 303]) rfl rfl trivial ?_
    refine xg_e hf (fun hg6 hf => ?_)
    refine xa_ld (t := 100) (τ := 0) (v := .int (xm_i h4 303 (Int32.toNatClampNeg ((51 : Int32) + x2)))) rfl rfl (xkf (xs_k hS rfl rfl : xm_k h4 303 = (100, 2217))) (xkn (xs_k hS rfl rfl : xm_k h4 303 = (100, 2217))) hg6 rfl ?_
    refine xw_G (pc' := 39) (st' := [.int v3, .int (xm_i h4 303 (Int32.toNatClampNeg ((51 : Int32) + x2)))]) rfl rfl trivial ?_
    refine xw_max rfl (Nat.le_of_ble_eq_true rfl) ?_
    refine xw_G (pc' := 44) (ls' := [some (.ref 302), some (.int x1), some (.int x2), some (.int x3), some (.int v3), some (.int (if (xm_i h4 303 (Int32.toNatClampNeg ((51 : Int32) + x2))) < v3 then v3 else (xm_i h4 303 (Int32.toNatClampNeg ((51 : Int32) + x2)))))]) (st' := []) rfl rfl (Nat.le_of_ble_eq_true rfl) ?_
    refine xw_G (pc' := 46) (st' := [.int (if (xm_i h4 303 (Int32.toNatClampNeg ((51 : Int32) + x2))) < v3 then v3 else (xm_i h4 303 (Int32.toNatClampNeg ((51 : Int32) + x2))))]) rfl rfl trivial ?_
    refine xw_G (pc' := 47) (st' := [.ref 302, .int (if (xm_i h4 303 (Int32.toNatClampNeg ((51 : Int32) + x2))) < v3 then v3 else (xm_i h4 303 (Int32.toNatClampNeg ((51 : Int32) + x2))))]) rfl rfl trivial ?_
    refine xw_gr rfl (xkf (xs_k hS rfl rfl : xm_k h4 302 = (11, 0))) (xs_r hS rfl) ?_
    refine xw_G (pc' := 51) (st' := [.int (3 : Int32), .ref 308, .int (if (xm_i h4 303 (Int32.toNatClampNeg ((51 : Int32) + x2))) < v3 then v3 else (xm_i h4 303 (Int32.toNatClampNeg ((51 : Int32) + x2))))]) rfl rfl trivial ?_
    refine xw_G (pc' := 52) (st' := [.int x3, .int (3 : Int32), .ref 308, .int (if (xm_i h4 303 (Int32.toNatClampNeg ((51 : Int32) + x2))) < v3 then v3 else (xm_i h4 303 (Int32.toNatClampNeg ((51 : Int32) + x2))))]) rfl rfl trivial ?_
    refine xw_G (pc' := 53) (st' := [.int ((3 : Int32) + x3), .ref 308, .int (if (xm_i h4 303 (Int32.toNatClampNeg ((51 : Int32) + x2))) < v3 then v3 else (xm_i h4 303 (Int32.toNatClampNeg ((51 : Int32) + x2))))]) rfl rfl trivial ?_
    refine xg_e hf (fun hg7 hf => ?_)
    refine xa_ld (t := 100) (τ := 0) (v := .int (xm_i h4 308 (Int32.toNatClampNeg ((3 : Int32) + x3)))) rfl rfl (xkf (xs_k hS rfl rfl : xm_k h4 308 = (100, 72))) (xkn (xs_k hS rfl rfl : xm_k h4 308 = (100, 72))) hg7 rfl ?_
    refine xw_G (pc' := 55) (st' := [.int ((if (xm_i h4 303 (Int32.toNatClampNeg ((51 : Int32) + x2))) < v3 then v3 else (xm_i h4 303 (Int32.toNatClampNeg ((51 : Int32) + x2)))) * (xm_i h4 308 (Int32.toNatClampNeg ((3 : Int32) + x3))))]) rfl rfl trivial ?_
    refine xw_G (pc' := 57) (st' := [.int (99 : Int32), .int ((if (xm_i h4 303 (Int32.toNatClampNeg ((51 : Int32) + x2))) < v3 then v3 else (xm_i h4 303 (Int32.toNatClampNeg ((51 : Int32) + x2)))) * (xm_i h4 308 (Int32.toNatClampNeg ((3 : Int32) + x3))))]) rfl rfl trivial ?_
    refine xw_G (pc' := 58) (st' := [.int (((if (xm_i h4 303 (Int32.toNatClampNeg ((51 : Int32) + x2))) < v3 then v3 else (xm_i h4 303 (Int32.toNatClampNeg ((51 : Int32) + x2)))) * (xm_i h4 308 (Int32.toNatClampNeg ((3 : Int32) + x3)))) + (99 : Int32))]) rfl rfl trivial ?_
    refine xw_G (pc' := 60) (st' := [.int (100 : Int32), .int (((if (xm_i h4 303 (Int32.toNatClampNeg ((51 : Int32) + x2))) < v3 then v3 else (xm_i h4 303 (Int32.toNatClampNeg ((51 : Int32) + x2)))) * (xm_i h4 308 (Int32.toNatClampNeg ((3 : Int32) + x3)))) + (99 : Int32))]) rfl rfl trivial ?_
    refine xw_G (pc' := 61) (st' := [.int ((((if (xm_i h4 303 (Int32.toNatClampNeg ((51 : Int32) + x2))) < v3 then v3 else (xm_i h4 303 (Int32.toNatClampNeg ((51 : Int32) + x2)))) * (xm_i h4 308 (Int32.toNatClampNeg ((3 : Int32) + x3)))) + (99 : Int32)) / (100 : Int32))]) rfl rfl (by decide) ?_
    exact xr_i (inj := xji) rfl rfl rfl rfl hf hQ hS
  · refine xw_G (pc' := 26) (st' := [.int (0 : Int32)]) rfl rfl trivial ?_
    refine xw_G (pc' := 28) (ls' := [some (.ref 302), some (.int x1), some (.int x2), some (.int x3), some (.int (0 : Int32)), none]) (st' := []) rfl rfl (Nat.le_of_ble_eq_true rfl) ?_
    refine xw_G (pc' := 29) (st' := [.ref 302]) rfl rfl trivial ?_
    refine xw_gr rfl (xkf (xs_k hS rfl rfl : xm_k h 302 = (11, 0))) (xs_r hS rfl) ?_
    refine xw_G (pc' := 34) (st' := [.int (51 : Int32), .ref 303]) rfl rfl trivial ?_
    refine xw_G (pc' := 35) (st' := [.int x2, .int (51 : Int32), .ref 303]) rfl rfl trivial ?_
    refine xw_G (pc' := 36) (st' := [.int ((51 : Int32) + x2), .ref 303]) rfl rfl trivial ?_
    refine xg_e hf (fun hg8 hf => ?_)
    refine xa_ld (t := 100) (τ := 0) (v := .int (xm_i h 303 (Int32.toNatClampNeg ((51 : Int32) + x2)))) rfl rfl (xkf (xs_k hS rfl rfl : xm_k h 303 = (100, 2217))) (xkn (xs_k hS rfl rfl : xm_k h 303 = (100, 2217))) hg8 rfl ?_
    refine xw_G (pc' := 39) (st' := [.int (0 : Int32), .int (xm_i h 303 (Int32.toNatClampNeg ((51 : Int32) + x2)))]) rfl rfl trivial ?_
    refine xw_max rfl (Nat.le_of_ble_eq_true rfl) ?_
    refine xw_G (pc' := 44) (ls' := [some (.ref 302), some (.int x1), some (.int x2), some (.int x3), some (.int (0 : Int32)), some (.int (if (xm_i h 303 (Int32.toNatClampNeg ((51 : Int32) + x2))) < (0 : Int32) then (0 : Int32) else (xm_i h 303 (Int32.toNatClampNeg ((51 : Int32) + x2)))))]) (st' := []) rfl rfl (Nat.le_of_ble_eq_true rfl) ?_
    refine xw_G (pc' := 46) (st' := [.int (if (xm_i h 303 (Int32.toNatClampNeg ((51 : Int32) + x2))) < (0 : Int32) then (0 : Int32) else (xm_i h 303 (Int32.toNatClampNeg ((51 : Int32) + x2))))]) rfl rfl trivial ?_
    refine xw_G (pc' := 47) (st' := [.ref 302, .int (if (xm_i h 303 (Int32.toNatClampNeg ((51 : Int32) + x2))) < (0 : Int32) then (0 : Int32) else (xm_i h 303 (Int32.toNatClampNeg ((51 : Int32) + x2))))]) rfl rfl trivial ?_
    refine xw_gr rfl (xkf (xs_k hS rfl rfl : xm_k h 302 = (11, 0))) (xs_r hS rfl) ?_
    refine xw_G (pc' := 51) (st' := [.int (3 : Int32), .ref 308, .int (if (xm_i h 303 (Int32.toNatClampNeg ((51 : Int32) + x2))) < (0 : Int32) then (0 : Int32) else (xm_i h 303 (Int32.toNatClampNeg ((51 : Int32) + x2))))]) rfl rfl trivial ?_
    refine xw_G (pc' := 52) (st' := [.int x3, .int (3 : Int32), .ref 308, .int (if (xm_i h 303 (Int32.toNatClampNeg ((51 : Int32) + x2))) < (0 : Int32) then (0 : Int32) else (xm_i h 303 (Int32.toNatClampNeg ((51 : Int32) + x2))))]) rfl rfl trivial ?_
    refine xw_G (pc' := 53) (st' := [.int ((3 : Int32) + x3), .ref 308, .int (if (xm_i h 303 (Int32.toNatClampNeg ((51 : Int32) + x2))) < (0 : Int32) then (0 : Int32) else (xm_i h 303 (Int32.toNatClampNeg ((51 : Int32) + x2))))]) rfl rfl trivial ?_
    refine xg_e hf (fun hg9 hf => ?_)
    refine xa_ld (t := 100) (τ := 0) (v := .int (xm_i h 308 (Int32.toNatClampNeg ((3 : Int32) + x3)))) rfl rfl (xkf (xs_k hS rfl rfl : xm_k h 308 = (100, 72))) (xkn (xs_k hS rfl rfl : xm_k h 308 = (100, 72))) hg9 rfl ?_
    refine xw_G (pc' := 55) (st' := [.int ((if (xm_i h 303 (Int32.toNatClampNeg ((51 : Int32) + x2))) < (0 : Int32) then (0 : Int32) else (xm_i h 303 (Int32.toNatClampNeg ((51 : Int32) + x2)))) * (xm_i h 308 (Int32.toNatClampNeg ((3 : Int32) + x3))))]) rfl rfl trivial ?_
    refine xw_G (pc' := 57) (st' := [.int (99 : Int32), .int ((if (xm_i h 303 (Int32.toNatClampNeg ((51 : Int32) + x2))) < (0 : Int32) then (0 : Int32) else (xm_i h 303 (Int32.toNatClampNeg ((51 : Int32) + x2)))) * (xm_i h 308 (Int32.toNatClampNeg ((3 : Int32) + x3))))]) rfl rfl trivial ?_
    refine xw_G (pc' := 58) (st' := [.int (((if (xm_i h 303 (Int32.toNatClampNeg ((51 : Int32) + x2))) < (0 : Int32) then (0 : Int32) else (xm_i h 303 (Int32.toNatClampNeg ((51 : Int32) + x2)))) * (xm_i h 308 (Int32.toNatClampNeg ((3 : Int32) + x3)))) + (99 : Int32))]) rfl rfl trivial ?_
    refine xw_G (pc' := 60) (st' := [.int (100 : Int32), .int (((if (xm_i h 303 (Int32.toNatClampNeg ((51 : Int32) + x2))) < (0 : Int32) then (0 : Int32) else (xm_i h 303 (Int32.toNatClampNeg ((51 : Int32) + x2)))) * (xm_i h 308 (Int32.toNatClampNeg ((3 : Int32) + x3)))) + (99 : Int32))]) rfl rfl trivial ?_
    refine xw_G (pc' := 61) (st' := [.int ((((if (xm_i h 303 (Int32.toNatClampNeg ((51 : Int32) + x2))) < (0 : Int32) then (0 : Int32) else (xm_i h 303 (Int32.toNatClampNeg ((51 : Int32) + x2)))) * (xm_i h 308 (Int32.toNatClampNeg ((3 : Int32) + x3)))) + (99 : Int32)) / (100 : Int32))]) rfl rfl (by decide) ?_
    exact xr_i (inj := xji) rfl rfl rfl rfl hf hQ hS
def f_X11_auction_13B (N : Nat) (c1 : Int32) (c2 : Int32) (c3 : Int32) (k48 : xm_H → Option (Unit × xm_H)) (rec : Int32 → xm_H → Option (Unit × xm_H)) (c4 : Int32) (h : xm_H) : Option (Unit × xm_H) := (if c4 < (xm_i h 308 14) then (xb (f_X11_refusalOf N c4 c1 c2 h) fun v2 h3 => (if v2 = 0 then (xb (f_X11_rankOne N c4 h3) fun v6 h7 => (rec (c4 + (1 : Int32)) h7)) else (rec (c4 + (1 : Int32)) h3))) else (k48  h))
def f_X11_auction_13 (N : Nat) (c1 : Int32) (c2 : Int32) (c3 : Int32) (k48 : xm_H → Option (Unit × xm_H)) : Nat → Int32 → xm_H → Option (Unit × xm_H)
  | 0 => fun _ _ => none
  | n + 1 => fun c4 h => f_X11_auction_13B N c1 c2 c3 k48 (f_X11_auction_13 N c1 c2 c3 k48 n) c4 h
def f_X11_auction_51B (N : Nat) (c2 : Int32) (c3 : Int32) (rec : Int32 → xm_H → Option (Unit × xm_H)) (c4 : Int32) (h : xm_H) : Option (Unit × xm_H) := (if c4 < (xm_i h 302 27) then (if (xm_i h 302 28) < c3 then (if xin c4 8 then (xb (f_X11_isApart N (xm_i h 312 (Int32.toNatClampNeg c4)) h) fun v4 h5 => (if v4 = 0 then (xb (f_X11_priceOf c4 c2 (xm_i h5 302 28) h5) fun v8 h9 => (if xin (xm_i h5 302 28) 4 then (xl (xm_si h9 314 (Int32.toNatClampNeg (xm_i h5 302 28)) v8) fun h12 => (if xin (xm_i h12 302 28) 4 then (xl (xm_si h12 313 (Int32.toNatClampNeg (xm_i h12 302 28)) (xm_i h12 312 (Int32.toNatClampNeg c4))) fun h15 => (xl (xm_si h15 302 28 ((xm_i h15 302 28) + (1 : Int32))) fun h17 => (rec (c4 + (1 : Int32)) h17))) else none)) else none)) else (rec (c4 + (1 : Int32)) h5))) else none) else (some ((), h))) else (some ((), h)))
def f_X11_auction_51 (N : Nat) (c2 : Int32) (c3 : Int32) : Nat → Int32 → xm_H → Option (Unit × xm_H)
  | 0 => fun _ _ => none
  | n + 1 => fun c4 h => f_X11_auction_51B N c2 c3 (f_X11_auction_51 N c2 c3 n) c4 h
def f_X11_auction (N : Nat) (x1 : Int32) (x2 : Int32) (x3 : Int32) (h : xm_H) : Option (Unit × xm_H) := (xl (xm_si h 302 27 (0 : Int32)) fun h1 => (xl (xm_si h1 302 28 (0 : Int32)) fun h3 => (f_X11_auction_13 N x1 x2 x3 (fun  (h5 : xm_H) => (f_X11_auction_51 N x2 x3 N (0 : Int32) h5)) N (0 : Int32) h3)))
theorem tl_X11_auction_13 {ρ : Nat} {δ : Nat} {N : Nat} {c1 : Int32} {c2 : Int32} {c3 : Int32} {k48 : xm_H → Option (Unit × xm_H)} {Q : xm_O → xm_H → Prop} {w : Unit × xm_H}  (hQ : xS ρ δ w.2 → Q (xjv w.1) w.2) (hk48 : ∀  (h : xm_H), xS ρ δ h → k48  h = some w → xm_W (xm_Rn xX 3) xM_X11_auction Q 48 [some (.ref 302), none, some (.int c2), some (.int c3), none] [] h) : ∀ (n : Nat) (c4 : Int32) (h : xm_H), xS ρ δ h → f_X11_auction_13 N c1 c2 c3 k48 n c4 h = some w → xm_W (xm_Rn xX 3) xM_X11_auction Q 13 [some (.ref 302), some (.int c1), some (.int c2), some (.int c3), some (.int c4)] [] h := by
  intro n
  induction n with
  | zero =>
    intro c4 h hS hf
    exact (xn_e hf).elim
  | succ n ih =>
    intro c4 h hS hf
    replace hf : f_X11_auction_13B N c1 c2 c3 k48 (f_X11_auction_13 N c1 c2 c3 k48 n) c4 h = some w := hf
    unfold f_X11_auction_13B at hf
    refine xw_K (pc' := 15) (ls' := [some (.ref 302), some (.int c1), some (.int c2), some (.int c3), some (.int c4)]) (st' := [.int c4]) rfl rfl trivial ?_
    refine xw_G (pc' := 16) (st' := [.ref 302, .int c4]) rfl rfl trivial ?_
    refine xw_gr rfl (xkf (xs_k hS rfl rfl : xm_k h 302 = (11, 0))) (xs_r hS rfl) ?_
    refine xw_G (pc' := 21) (st' := [.int (14 : Int32), .ref 308, .int c4]) rfl rfl trivial ?_
    refine xa_ld (t := 100) (τ := 0) (v := .int (xm_i h 308 14)) rfl rfl (xkf (xs_k hS rfl rfl : xm_k h 308 = (100, 72))) (xkn (xs_k hS rfl rfl : xm_k h 308 = (100, 72))) (by decide : xin (14 : Int32) 72) rfl ?_
    refine xj_ic_ge rfl hf (fun hc1 hf => ?_) (fun hc1 hf => ?_)
    · refine xw_G (pc' := 26) (st' := [.ref 302]) rfl rfl trivial ?_
      refine xw_G (pc' := 28) (st' := [.int c4, .ref 302]) rfl rfl trivial ?_
      refine xw_G (pc' := 29) (st' := [.int c1, .int c4, .ref 302]) rfl rfl trivial ?_
      refine xw_G (pc' := 30) (st' := [.int c2, .int c1, .int c4, .ref 302]) rfl rfl trivial ?_
      refine xb_e hf (fun v2 h3 e4 hf => ?_)
      refine xw_V (v := some (.int v2)) rfl rfl (xkf (xs_k hS rfl rfl : xm_k h 302 = (11, 0))) (Nat.le_of_ble_eq_true rfl) (Nat.le_of_ble_eq_true rfl) (xm_Rn_le (Nat.le_of_ble_eq_true rfl) (t_X11_refusalOf  hS e4).1) ?_
      have hS := (t_X11_refusalOf  hS e4).2
      show xm_W _ _ _ 33 _ [.int v2] _
      refine xj_if_ne rfl hf (fun hc5 hf => ?_) (fun hc5 hf => ?_)
      · refine xw_G (pc' := 37) (st' := [.ref 302]) rfl rfl trivial ?_
        refine xw_G (pc' := 39) (st' := [.int c4, .ref 302]) rfl rfl trivial ?_
        refine xb_e hf (fun v6 h7 e8 hf => ?_)
        refine xw_V (v := none) rfl rfl (xkf (xs_k hS rfl rfl : xm_k h3 302 = (11, 0))) (Nat.le_of_ble_eq_true rfl) (Nat.le_of_ble_eq_true rfl) (xm_Rn_le (Nat.le_of_ble_eq_true rfl) (t_X11_rankOne  hS e8).1) ?_
        have hS := (t_X11_rankOne  hS e8).2
        show xm_W _ _ _ 42 _ [] _
        refine xw_G (pc' := 45) (ls' := [some (.ref 302), some (.int c1), some (.int c2), some (.int c3), some (.int (c4 + (1 : Int32)))]) (st' := []) rfl rfl (Nat.le_of_ble_eq_true rfl) ?_
        refine xw_G (pc' := 13) (st' := []) rfl rfl trivial ?_
        refine xw_M rfl rfl ?_
        exact ih _ _ hS hf
      · refine xw_G (pc' := 45) (ls' := [some (.ref 302), some (.int c1), some (.int c2), some (.int c3), some (.int (c4 + (1 : Int32)))]) (st' := []) rfl rfl (Nat.le_of_ble_eq_true rfl) ?_
        refine xw_G (pc' := 13) (st' := []) rfl rfl trivial ?_
        refine xw_M rfl rfl ?_
        exact ih _ _ hS hf
    · refine xw_M rfl rfl ?_
      exact hk48  _ hS hf
theorem tl_X11_auction_51 {ρ : Nat} {δ : Nat} {N : Nat} {c2 : Int32} {c3 : Int32} {Q : xm_O → xm_H → Prop} {w : Unit × xm_H}  (hQ : xS ρ δ w.2 → Q (xjv w.1) w.2)  : ∀ (n : Nat) (c4 : Int32) (h : xm_H), xS ρ δ h → f_X11_auction_51 N c2 c3 n c4 h = some w → xm_W (xm_Rn xX 3) xM_X11_auction Q 51 [some (.ref 302), none, some (.int c2), some (.int c3), some (.int c4)] [] h := by
  intro n
  induction n with
  | zero =>
    intro c4 h hS hf
    exact (xn_e hf).elim
  | succ n ih =>
    intro c4 h hS hf
    replace hf : f_X11_auction_51B N c2 c3 (f_X11_auction_51 N c2 c3 n) c4 h = some w := hf
    unfold f_X11_auction_51B at hf
    refine xw_K (pc' := 53) (ls' := [some (.ref 302), none, some (.int c2), some (.int c3), some (.int c4)]) (st' := [.int c4]) rfl rfl trivial ?_
    refine xw_G (pc' := 54) (st' := [.ref 302, .int c4]) rfl rfl trivial ?_
    refine xw_G (pc' := 57) (st' := [.int (xm_i h 302 27), .int c4]) rfl rfl (xkf (xs_k hS rfl rfl : xm_k h 302 = (11, 0))) ?_
    refine xj_ic_ge rfl hf (fun hc1 hf => ?_) (fun hc1 hf => ?_)
    · refine xw_G (pc' := 61) (st' := [.ref 302]) rfl rfl trivial ?_
      refine xw_G (pc' := 64) (st' := [.int (xm_i h 302 28)]) rfl rfl (xkf (xs_k hS rfl rfl : xm_k h 302 = (11, 0))) ?_
      refine xw_G (pc' := 65) (st' := [.int c3, .int (xm_i h 302 28)]) rfl rfl trivial ?_
      refine xj_ic_ge rfl hf (fun hc2 hf => ?_) (fun hc2 hf => ?_)
      · refine xw_G (pc' := 69) (st' := [.ref 302]) rfl rfl trivial ?_
        refine xw_G (pc' := 70) (st' := [.ref 302, .ref 302]) rfl rfl trivial ?_
        refine xw_gr rfl (xkf (xs_k hS rfl rfl : xm_k h 302 = (11, 0))) (xs_r hS rfl) ?_
        refine xw_G (pc' := 75) (st' := [.int c4, .ref 312, .ref 302]) rfl rfl trivial ?_
        refine xg_e hf (fun hg3 hf => ?_)
        refine xa_ld (t := 100) (τ := 0) (v := .int (xm_i h 312 (Int32.toNatClampNeg c4))) rfl rfl (xkf (xs_k hS rfl rfl : xm_k h 312 = (100, 8))) (xkn (xs_k hS rfl rfl : xm_k h 312 = (100, 8))) hg3 rfl ?_
        refine xb_e hf (fun v4 h5 e6 hf => ?_)
        refine xw_V (v := some (.int v4)) rfl rfl (xkf (xs_k hS rfl rfl : xm_k h 302 = (11, 0))) (Nat.le_of_ble_eq_true rfl) (Nat.le_of_ble_eq_true rfl) (xm_Rn_le (Nat.le_of_ble_eq_true rfl) (t_X11_isApart  hS e6).1) ?_
        have hS := (t_X11_isApart  hS e6).2
        show xm_W _ _ _ 79 _ [.int v4] _
        refine xj_if_ne rfl hf (fun hc7 hf => ?_) (fun hc7 hf => ?_)
        · refine xw_G (pc' := 83) (st' := [.ref 302]) rfl rfl trivial ?_
          refine xw_gr rfl (xkf (xs_k hS rfl rfl : xm_k h5 302 = (11, 0))) (xs_r hS rfl) ?_
          refine xw_G (pc' := 87) (st' := [.ref 302, .ref 314]) rfl rfl trivial ?_
          refine xw_G (pc' := 90) (st' := [.int (xm_i h5 302 28), .ref 314]) rfl rfl (xkf (xs_k hS rfl rfl : xm_k h5 302 = (11, 0))) ?_
          refine xw_G (pc' := 91) (st' := [.ref 302, .int (xm_i h5 302 28), .ref 314]) rfl rfl trivial ?_
          refine xw_G (pc' := 93) (st' := [.int c4, .ref 302, .int (xm_i h5 302 28), .ref 314]) rfl rfl trivial ?_
          refine xw_G (pc' := 94) (st' := [.int c2, .int c4, .ref 302, .int (xm_i h5 302 28), .ref 314]) rfl rfl trivial ?_
          refine xw_G (pc' := 95) (st' := [.ref 302, .int c2, .int c4, .ref 302, .int (xm_i h5 302 28), .ref 314]) rfl rfl trivial ?_
          refine xw_G (pc' := 98) (st' := [.int (xm_i h5 302 28), .int c2, .int c4, .ref 302, .int (xm_i h5 302 28), .ref 314]) rfl rfl (xkf (xs_k hS rfl rfl : xm_k h5 302 = (11, 0))) ?_
          refine xb_e hf (fun v8 h9 e10 hf => ?_)
          refine xw_V (v := some (.int v8)) rfl rfl (xkf (xs_k hS rfl rfl : xm_k h5 302 = (11, 0))) (Nat.le_of_ble_eq_true rfl) (Nat.le_of_ble_eq_true rfl) (xm_Rn_le (Nat.le_of_ble_eq_true rfl) (t_X11_priceOf  hS e10).1) ?_
          have hS := (t_X11_priceOf  hS e10).2
          show xm_W _ _ _ 101 _ [.int v8, .int (xm_i h5 302 28), .ref 314] _
          refine xg_e hf (fun hg11 hf => ?_)
          refine xa_i rfl (xkf (xs_k hS rfl rfl : xm_k h9 314 = (100, 4))) (xkn (xs_k hS rfl rfl : xm_k h9 314 = (100, 4))) hg11 (Nat.le_of_ble_eq_true rfl) hf (fun h12 e13 hf => ?_)
          have hS := xS_si hS e13
          refine xw_G (pc' := 103) (st' := [.ref 302]) rfl rfl trivial ?_
          refine xw_gr rfl (xkf (xs_k hS rfl rfl : xm_k h12 302 = (11, 0))) (xs_r hS rfl) ?_
          refine xw_G (pc' := 107) (st' := [.ref 302, .ref 313]) rfl rfl trivial ?_
          refine xw_G (pc' := 110) (st' := [.int (xm_i h12 302 28), .ref 313]) rfl rfl (xkf (xs_k hS rfl rfl : xm_k h12 302 = (11, 0))) ?_
          refine xw_G (pc' := 111) (st' := [.ref 302, .int (xm_i h12 302 28), .ref 313]) rfl rfl trivial ?_
          refine xw_gr rfl (xkf (xs_k hS rfl rfl : xm_k h12 302 = (11, 0))) (xs_r hS rfl) ?_
          refine xw_G (pc' := 116) (st' := [.int c4, .ref 312, .int (xm_i h12 302 28), .ref 313]) rfl rfl trivial ?_
          refine xa_ld (t := 100) (τ := 0) (v := .int (xm_i h12 312 (Int32.toNatClampNeg c4))) rfl rfl (xkf (xs_k hS rfl rfl : xm_k h12 312 = (100, 8))) (xkn (xs_k hS rfl rfl : xm_k h12 312 = (100, 8))) hg3 rfl ?_
          refine xg_e hf (fun hg14 hf => ?_)
          refine xa_i rfl (xkf (xs_k hS rfl rfl : xm_k h12 313 = (100, 4))) (xkn (xs_k hS rfl rfl : xm_k h12 313 = (100, 4))) hg14 (Nat.le_of_ble_eq_true rfl) hf (fun h15 e16 hf => ?_)
          have hS := xS_si hS e16
          refine xw_G (pc' := 119) (st' := [.ref 302]) rfl rfl trivial ?_
          refine xw_G (pc' := 120) (st' := [.ref 302, .ref 302]) rfl rfl rfl ?_
          refine xw_G (pc' := 123) (st' := [.int (xm_i h15 302 28), .ref 302]) rfl rfl (xkf (xs_k hS rfl rfl : xm_k h15 302 = (11, 0))) ?_
          refine xw_G (pc' := 124) (st' := [.int (1 : Int32), .int (xm_i h15 302 28), .ref 302]) rfl rfl trivial ?_
          refine xw_G (pc' := 125) (st' := [.int ((xm_i h15 302 28) + (1 : Int32)), .ref 302]) rfl rfl trivial ?_
          refine xp_i rfl (xkf (xs_k hS rfl rfl : xm_k h15 302 = (11, 0))) (Nat.le_of_ble_eq_true rfl) hf (fun h17 e18 hf => ?_)
          have hS := xS_si hS e18
          refine xw_G (pc' := 131) (ls' := [some (.ref 302), none, some (.int c2), some (.int c3), some (.int (c4 + (1 : Int32)))]) (st' := []) rfl rfl (Nat.le_of_ble_eq_true rfl) ?_
          refine xw_G (pc' := 51) (st' := []) rfl rfl trivial ?_
          refine xw_M rfl rfl ?_
          exact ih _ _ hS hf
        · refine xw_G (pc' := 131) (ls' := [some (.ref 302), none, some (.int c2), some (.int c3), some (.int (c4 + (1 : Int32)))]) (st' := []) rfl rfl (Nat.le_of_ble_eq_true rfl) ?_
          refine xw_G (pc' := 51) (st' := []) rfl rfl trivial ?_
          refine xw_M rfl rfl ?_
          exact ih _ _ hS hf
      · exact xr_v (inj := xjv) rfl rfl hf hQ hS
    · exact xr_v (inj := xjv) rfl rfl hf hQ hS
theorem t_X11_auction {N : Nat} {ρ : Nat} {δ : Nat} {x1 : Int32} {x2 : Int32} {x3 : Int32} {h : xm_H} {w : Unit × xm_H}  (hS : xS ρ δ h) (hf : f_X11_auction N x1 x2 x3 h = some w) : xm_Rn xX 4 195 [.ref 302, .int x1, .int x2, .int x3] h (xjv w.1) w.2 ∧ xS ρ δ w.2 := by
  refine xt_mk (φ := fun h => xS ρ δ h) (M := xM_X11_auction) (ls := [some (.ref 302), some (.int x1), some (.int x2), some (.int x3), none]) rfl (Nat.le_of_ble_eq_true rfl) rfl (fun Q hQ => ?_)
  unfold f_X11_auction at hf
  refine xw_G (pc' := 1) (st' := [.ref 302]) rfl rfl trivial ?_
  refine xw_G (pc' := 2) (st' := [.int (0 : Int32), .ref 302]) rfl rfl trivial ?_
  refine xp_i rfl (xkf (xs_k hS rfl rfl : xm_k h 302 = (11, 0))) (Nat.le_of_ble_eq_true rfl) hf (fun h1 e2 hf => ?_)
  have hS := xS_si hS e2
  refine xw_G (pc' := 6) (st' := [.ref 302]) rfl rfl trivial ?_
  refine xw_G (pc' := 7) (st' := [.int (0 : Int32), .ref 302]) rfl rfl trivial ?_
  refine xp_i rfl (xkf (xs_k hS rfl rfl : xm_k h1 302 = (11, 0))) (Nat.le_of_ble_eq_true rfl) hf (fun h3 e4 hf => ?_)
  have hS := xS_si hS e4
  refine xw_G (pc' := 11) (st' := [.int (0 : Int32)]) rfl rfl trivial ?_
  refine xw_G (pc' := 13) (ls' := [some (.ref 302), some (.int x1), some (.int x2), some (.int x3), some (.int (0 : Int32))]) (st' := []) rfl rfl (Nat.le_of_ble_eq_true rfl) ?_
  refine xw_M rfl rfl ?_
  refine tl_X11_auction_13  hQ (fun  h5 hS hf => ?_) _ _ _ hS hf
  refine xw_K (pc' := 49) (ls' := [some (.ref 302), none, some (.int x2), some (.int x3), none]) (st' := [.int (0 : Int32)]) rfl rfl trivial ?_
  refine xw_G (pc' := 51) (ls' := [some (.ref 302), none, some (.int x2), some (.int x3), some (.int (0 : Int32))]) (st' := []) rfl rfl (Nat.le_of_ble_eq_true rfl) ?_
  refine xw_M rfl rfl ?_
  refine tl_X11_auction_51  hQ  _ _ _ hS hf
