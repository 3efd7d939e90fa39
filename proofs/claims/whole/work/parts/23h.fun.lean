/-! printed by wip/gen/gen23.py: methods as functions of their arguments and the heap -/
def f_X10_pause (ρ : Nat) (x1 : Int32) (h : xm_H) : Option ((Int32 ⊕ Nat × Nat) × xm_H) := (xe (f_X10_requireCampaign ρ x1 h) (fun v1 h2 => (if xin x1 8 then (if (xm_i h2 208 (Int32.toNatClampNeg x1)) = 0 then (xb (f_X3_remember h2) fun v6 h7 => (xl (xm_si h7 208 (Int32.toNatClampNeg x1) (1 : Int32)) fun h9 => (xb (f_X2_moneyLeft x1 h9) fun v11 h12 => (some (.inl v11, h12))))) else (some (.inr (16, xm_n h2), xm_new h2 (16, 0)))) else none)) (fun q14 h15 => (some (.inr q14, h15))))
theorem t_X10_pause {ρ : Nat} {δ : Nat} {x1 : Int32} {h : xm_H} {w : (Int32 ⊕ Nat × Nat) × xm_H}  (hS : xS ρ δ h) (hf : f_X10_pause ρ x1 h = some w) : xm_Rn xX 3 103 [.ref 160, .int x1] h (xti w.1) w.2 ∧ xS ρ δ w.2 := by
  refine xt_mk (φ := fun h => xS ρ δ h) (M := xM_X10_pause) (ls := [some (.ref 160), some (.int x1)]) rfl (Nat.le_of_ble_eq_true rfl) rfl (fun Q hQ => ?_)
  unfold f_X10_pause at hf
  refine xw_G (pc' := 1) (st' := [.ref 160]) rfl rfl trivial ?_
  refine xw_G (pc' := 2) (st' := [.int x1, .ref 160]) rfl rfl trivial ?_
  refine xe_e hf (fun v1 h2 e3 hf => ?_) (fun q14 h15 e3 hf => ?_)
  · refine xw_V (v := none) rfl rfl (xkf (xs_k hS rfl rfl : xm_k h 160 = (0, 0))) (Nat.le_of_ble_eq_true rfl) (Nat.le_of_ble_eq_true rfl) (xm_Rn_le (Nat.le_of_ble_eq_true rfl) (t_X10_requireCampaign  hS e3).1) ?_
    have hS := (t_X10_requireCampaign  hS e3).2
    show xm_W _ _ _ 5 _ [] _
    refine xw_G (pc' := 6) (st' := [.ref 160]) rfl rfl trivial ?_
    refine xw_gr rfl (xkf (xs_k hS rfl rfl : xm_k h2 160 = (0, 0))) (xs_r hS rfl) ?_
    refine xw_gr rfl (xkf (xs_k hS rfl rfl : xm_k h2 182 = (3, 0))) (xs_r hS rfl) ?_
    refine xw_gr rfl (xkf (xs_k hS rfl rfl : xm_k h2 201 = (8, 0))) (xs_r hS rfl) ?_
    refine xw_G (pc' := 16) (st' := [.int x1, .ref 208]) rfl rfl trivial ?_
    refine xg_e hf (fun hg4 hf => ?_)
    refine xa_ld (t := 101) (τ := 0) (v := .int (xm_i h2 208 (Int32.toNatClampNeg x1))) rfl rfl (xkf (xs_k hS rfl rfl : xm_k h2 208 = (101, 8))) (xkn (xs_k hS rfl rfl : xm_k h2 208 = (101, 8))) hg4 rfl ?_
    refine xj_if_eq rfl hf (fun hc5 hf => ?_) (fun hc5 hf => ?_)
    · refine xw_G (pc' := 32) (st' := [.ref 160]) rfl rfl trivial ?_
      refine xw_gr rfl (xkf (xs_k hS rfl rfl : xm_k h2 160 = (0, 0))) (xs_r hS rfl) ?_
      refine xw_G (pc' := 36) (st' := [.ref 160, .ref 234]) rfl rfl trivial ?_
      refine xw_gr rfl (xkf (xs_k hS rfl rfl : xm_k h2 160 = (0, 0))) (xs_r hS rfl) ?_
      refine xw_gr rfl (xkf (xs_k hS rfl rfl : xm_k h2 182 = (3, 0))) (xs_r hS rfl) ?_
      refine xb_e hf (fun v6 h7 e8 hf => ?_)
      refine xw_V (v := none) rfl rfl (xkf (xs_k hS rfl rfl : xm_k h2 234 = (4, 0))) (Nat.le_of_ble_eq_true rfl) (Nat.le_of_ble_eq_true rfl) (xm_Rn_le (Nat.le_of_ble_eq_true rfl) (t_X3_remember  hS e8).1) ?_
      have hS := (t_X3_remember  hS e8).2
      show xm_W _ _ _ 45 _ [] _
      refine xw_G (pc' := 46) (st' := [.ref 160]) rfl rfl trivial ?_
      refine xw_gr rfl (xkf (xs_k hS rfl rfl : xm_k h7 160 = (0, 0))) (xs_r hS rfl) ?_
      refine xw_gr rfl (xkf (xs_k hS rfl rfl : xm_k h7 182 = (3, 0))) (xs_r hS rfl) ?_
      refine xw_gr rfl (xkf (xs_k hS rfl rfl : xm_k h7 201 = (8, 0))) (xs_r hS rfl) ?_
      refine xw_G (pc' := 56) (st' := [.int x1, .ref 208]) rfl rfl trivial ?_
      refine xw_G (pc' := 57) (st' := [.int (1 : Int32), .int x1, .ref 208]) rfl rfl trivial ?_
      refine xa_z rfl (xkf (xs_k hS rfl rfl : xm_k h7 208 = (101, 8))) (xkn (xs_k hS rfl rfl : xm_k h7 208 = (101, 8))) hg4 (Nat.le_of_ble_eq_true rfl) hf (fun h9 e10 hf => ?_)
      have hS := xS_si hS e10
      refine xw_G (pc' := 59) (st' := [.ref 160]) rfl rfl trivial ?_
      refine xw_gr rfl (xkf (xs_k hS rfl rfl : xm_k h9 160 = (0, 0))) (xs_r hS rfl) ?_
      refine xw_G (pc' := 63) (st' := [.int x1, .ref 182]) rfl rfl trivial ?_
      refine xb_e hf (fun v11 h12 e13 hf => ?_)
      refine xw_V (v := some (.int v11)) rfl rfl (xkf (xs_k hS rfl rfl : xm_k h9 182 = (3, 0))) (Nat.le_of_ble_eq_true rfl) (Nat.le_of_ble_eq_true rfl) (xm_Rn_le (Nat.le_of_ble_eq_true rfl) (t_X2_moneyLeft  hS e13).1) ?_
      have hS := (t_X2_moneyLeft  hS e13).2
      show xm_W _ _ _ 66 _ [.int v11] _
      exact xr_i (inj := xti) rfl rfl rfl rfl hf hQ hS
    · exact xr_t (inj := xti) rfl (Nat.le_of_ble_eq_true rfl) rfl hf hQ (xS_new hS rfl)
  · refine xw_VX (x := q14) rfl rfl (xkf (xs_k hS rfl rfl : xm_k h 160 = (0, 0))) (Nat.le_of_ble_eq_true rfl) (Nat.le_of_ble_eq_true rfl) (xm_Rn_le (Nat.le_of_ble_eq_true rfl) (t_X10_requireCampaign  hS e3).1) rfl ?_
    have hS := (t_X10_requireCampaign  hS e3).2
    exact xr_x (inj := xti) rfl hf hQ hS
def f_L_pause (ρ : Nat) (x1 : Int32) (h : xm_H) : Option (Int32 × xm_H) := (xe (f_X10_pause ρ x1 h) (fun v1 h2 => (xl (xm_sl h2 316 0 (Int32.toInt64 v1)) fun h4 => (some ((0 : Int32), h4)))) (fun q6 h7 => (if (q6).1 = 14 then (some ((1 : Int32), h7)) else (if (q6).1 = 16 then (some ((2 : Int32), h7)) else none))))
theorem t_L_pause {ρ : Nat} {δ : Nat} {x1 : Int32} {h : xm_H} {w : Int32 × xm_H}  (hS : xS ρ δ h) (hf : f_L_pause ρ x1 h = some w) : xm_Rn xX 4 348 [.ref 160, .int x1, .ref 316] h (xji w.1) w.2 ∧ xS ρ δ w.2 := by
  refine xt_mk (φ := fun h => xS ρ δ h) (M := xM_L_pause) (ls := [some (.ref 160), some (.int x1), some (.ref 316), none]) rfl (Nat.le_of_ble_eq_true rfl) rfl (fun Q hQ => ?_)
  unfold f_L_pause at hf
  refine xw_G (pc' := 1) (st' := [.ref 316]) rfl rfl trivial ?_
  refine xw_G (pc' := 2) (st' := [.int (0 : Int32), .ref 316]) rfl rfl trivial ?_
  refine xw_G (pc' := 3) (st' := [.ref 160, .int (0 : Int32), .ref 316]) rfl rfl trivial ?_
  refine xw_G (pc' := 4) (st' := [.int x1, .ref 160, .int (0 : Int32), .ref 316]) rfl rfl trivial ?_
  refine xe_e hf (fun v1 h2 e3 hf => ?_) (fun q6 h7 e3 hf => ?_)
  · refine xw_V (v := some (.int v1)) rfl rfl (xkf (xs_k hS rfl rfl : xm_k h 160 = (0, 0))) (Nat.le_of_ble_eq_true rfl) (Nat.le_of_ble_eq_true rfl) (xm_Rn_le (Nat.le_of_ble_eq_true rfl) (t_X10_pause  hS e3).1) ?_
    have hS := (t_X10_pause  hS e3).2
    show xm_W _ _ _ 7 _ [.int v1, .int (0 : Int32), .ref 316] _
    refine xw_G (pc' := 8) (st' := [.long (Int32.toInt64 v1), .int (0 : Int32), .ref 316]) rfl rfl trivial ?_
    refine xa_l rfl (xkf (xs_k hS rfl rfl : xm_k h2 316 = (104, 1))) (xkn (xs_k hS rfl rfl : xm_k h2 316 = (104, 1))) (by decide : xin (0 : Int32) 1) (Nat.le_of_ble_eq_true rfl) hf (fun h4 e5 hf => ?_)
    have hS := xS_sl hS e5
    refine xw_G (pc' := 18) (st' := []) rfl rfl trivial ?_
    refine xw_G (pc' := 19) (st' := [.int (0 : Int32)]) rfl rfl trivial ?_
    exact xr_i (inj := xji) rfl rfl rfl rfl hf hQ hS
  · by_cases hc8 : (q6).1 = 14
    · rw [if_pos hc8] at hf
      refine xw_VH (x := q6) (p := 12) rfl rfl (xkf (xs_k hS rfl rfl : xm_k h 160 = (0, 0))) (Nat.le_of_ble_eq_true rfl) (Nat.le_of_ble_eq_true rfl) (xm_Rn_le (Nat.le_of_ble_eq_true rfl) (t_X10_pause  hS e3).1) (by rw [hc8]; rfl) ?_
      have hS := (t_X10_pause  hS e3).2
      refine xw_G (pc' := 13) (ls' := [some (.ref 160), some (.int x1), some (.ref 316), some (.ref ((q6).2))]) (st' := []) rfl rfl (Nat.le_of_ble_eq_true rfl) ?_
      refine xw_G (pc' := 14) (st' := [.int (1 : Int32)]) rfl rfl trivial ?_
      exact xr_i (inj := xji) rfl rfl rfl rfl hf hQ hS
    · rw [if_neg hc8] at hf
      by_cases hc8 : (q6).1 = 16
      · rw [if_pos hc8] at hf
        refine xw_VH (x := q6) (p := 15) rfl rfl (xkf (xs_k hS rfl rfl : xm_k h 160 = (0, 0))) (Nat.le_of_ble_eq_true rfl) (Nat.le_of_ble_eq_true rfl) (xm_Rn_le (Nat.le_of_ble_eq_true rfl) (t_X10_pause  hS e3).1) (by rw [hc8]; rfl) ?_
        have hS := (t_X10_pause  hS e3).2
        refine xw_G (pc' := 16) (ls' := [some (.ref 160), some (.int x1), some (.ref 316), some (.ref ((q6).2))]) (st' := []) rfl rfl (Nat.le_of_ble_eq_true rfl) ?_
        refine xw_G (pc' := 17) (st' := [.int (2 : Int32)]) rfl rfl trivial ?_
        exact xr_i (inj := xji) rfl rfl rfl rfl hf hQ hS
      · rw [if_neg hc8] at hf
        exact (xn_e hf).elim
def f_X11_change (N : Nat) (x1 : Int32) (x2 : Int32) (h : xm_H) : Option (Int32 × xm_H) := (xb (f_X11_isCampaign x1 h) fun v1 h2 => (if v1 = 0 then (xb (f_X11_good_ v1 (0 : Int32) h2) fun v5 h6 => (if v5 = 0 then (some ((0 : Int32), h6)) else (xb (f_X11_remember N h6) fun v9 h10 => (xb (f_X11_set x1 (5 : Int32) x2 h10) fun v12 h13 => (xb (f_X11_leftOf x1 h13) fun v15 h16 => (some (v15, h16))))))) else (xb (f_X11_of x1 (5 : Int32) h2) fun v18 h19 => (if v18 = x2 then (xb (f_X11_good_ v1 (0 : Int32) h19) fun v22 h23 => (if v22 = 0 then (some ((0 : Int32), h23)) else (xb (f_X11_remember N h23) fun v26 h27 => (xb (f_X11_set x1 (5 : Int32) x2 h27) fun v29 h30 => (xb (f_X11_leftOf x1 h30) fun v32 h33 => (some (v32, h33))))))) else (xb (f_X11_good_ v1 (1 : Int32) h19) fun v35 h36 => (if v35 = 0 then (some ((0 : Int32), h36)) else (xb (f_X11_remember N h36) fun v39 h40 => (xb (f_X11_set x1 (5 : Int32) x2 h40) fun v42 h43 => (xb (f_X11_leftOf x1 h43) fun v45 h46 => (some (v45, h46)))))))))))
theorem t_X11_change {N : Nat} {ρ : Nat} {δ : Nat} {x1 : Int32} {x2 : Int32} {h : xm_H} {w : Int32 × xm_H}  (hS : xS ρ δ h) (hf : f_X11_change N x1 x2 h = some w) : xm_Rn xX 3 222 [.ref 302, .int x1, .int x2] h (xji w.1) w.2 ∧ xS ρ δ w.2 := by
  refine xt_mk (φ := fun h => xS ρ δ h) (M := xM_X11_change) (ls := [some (.ref 302), some (.int x1), some (.int x2), none]) rfl (Nat.le_of_ble_eq_true rfl) rfl (fun Q hQ => ?_)
  unfold f_X11_change at hf
  refine xw_G (pc' := 1) (st' := [.ref 302]) rfl rfl trivial ?_
  refine xw_G (pc' := 2) (st' := [.int x1, .ref 302]) rfl rfl trivial ?_
  refine xb_e hf (fun v1 h2 e3 hf => ?_)
  refine xw_V (v := some (.int v1)) rfl rfl (xkf (xs_k hS rfl rfl : xm_k h 302 = (11, 0))) (Nat.le_of_ble_eq_true rfl) (Nat.le_of_ble_eq_true rfl) (xm_Rn_le (Nat.le_of_ble_eq_true rfl) (t_X11_isCampaign  hS e3).1) ?_
  have hS := (t_X11_isCampaign  hS e3).2
  show xm_W _ _ _ 5 _ [.int v1] _
  refine xw_G (pc' := 6) (ls' := [some (.ref 302), some (.int x1), some (.int x2), some (.int v1)]) (st' := []) rfl rfl (Nat.le_of_ble_eq_true rfl) ?_
  refine xw_G (pc' := 7) (st' := [.ref 302]) rfl rfl trivial ?_
  refine xw_G (pc' := 8) (st' := [.int v1, .ref 302]) rfl rfl trivial ?_
  refine xw_G (pc' := 9) (st' := [.int v1, .int v1, .ref 302]) rfl rfl trivial ?_
  refine xj_if_eq rfl hf (fun hc4 hf => ?_) (fun hc4 hf => ?_)
  · refine xw_G (pc' := 27) (st' := [.int (0 : Int32), .int v1, .ref 302]) rfl rfl trivial ?_
    refine xb_e hf (fun v5 h6 e7 hf => ?_)
    refine xw_V (v := some (.int v5)) rfl rfl (xkf (xs_k hS rfl rfl : xm_k h2 302 = (11, 0))) (Nat.le_of_ble_eq_true rfl) (Nat.le_of_ble_eq_true rfl) (xm_Rn_le (Nat.le_of_ble_eq_true rfl) (t_X11_good_  hS e7).1) ?_
    have hS := (t_X11_good_  hS e7).2
    show xm_W _ _ _ 30 _ [.int v5] _
    refine xj_if_ne rfl hf (fun hc8 hf => ?_) (fun hc8 hf => ?_)
    · refine xw_G (pc' := 34) (st' := [.int (0 : Int32)]) rfl rfl trivial ?_
      exact xr_i (inj := xji) rfl rfl rfl rfl hf hQ hS
    · refine xw_G (pc' := 36) (st' := [.ref 302]) rfl rfl trivial ?_
      refine xb_e hf (fun v9 h10 e11 hf => ?_)
      refine xw_V (v := none) rfl rfl (xkf (xs_k hS rfl rfl : xm_k h6 302 = (11, 0))) (Nat.le_of_ble_eq_true rfl) (Nat.le_of_ble_eq_true rfl) (xm_Rn_le (Nat.le_of_ble_eq_true rfl) (t_X11_remember  hS e11).1) ?_
      have hS := (t_X11_remember  hS e11).2
      show xm_W _ _ _ 39 _ [] _
      refine xw_G (pc' := 40) (st' := [.ref 302]) rfl rfl trivial ?_
      refine xw_G (pc' := 41) (st' := [.int x1, .ref 302]) rfl rfl trivial ?_
      refine xw_G (pc' := 42) (st' := [.int (5 : Int32), .int x1, .ref 302]) rfl rfl trivial ?_
      refine xw_G (pc' := 43) (st' := [.int x2, .int (5 : Int32), .int x1, .ref 302]) rfl rfl trivial ?_
      refine xb_e hf (fun v12 h13 e14 hf => ?_)
      refine xw_V (v := none) rfl rfl (xkf (xs_k hS rfl rfl : xm_k h10 302 = (11, 0))) (Nat.le_of_ble_eq_true rfl) (Nat.le_of_ble_eq_true rfl) (xm_Rn_le (Nat.le_of_ble_eq_true rfl) (t_X11_set  hS e14).1) ?_
      have hS := (t_X11_set  hS e14).2
      show xm_W _ _ _ 46 _ [] _
      refine xw_G (pc' := 47) (st' := [.ref 302]) rfl rfl trivial ?_
      refine xw_G (pc' := 48) (st' := [.int x1, .ref 302]) rfl rfl trivial ?_
      refine xb_e hf (fun v15 h16 e17 hf => ?_)
      refine xw_V (v := some (.int v15)) rfl rfl (xkf (xs_k hS rfl rfl : xm_k h13 302 = (11, 0))) (Nat.le_of_ble_eq_true rfl) (Nat.le_of_ble_eq_true rfl) (xm_Rn_le (Nat.le_of_ble_eq_true rfl) (t_X11_leftOf  hS e17).1) ?_
      have hS := (t_X11_leftOf  hS e17).2
      show xm_W _ _ _ 51 _ [.int v15] _
      exact xr_i (inj := xji) rfl rfl rfl rfl hf hQ hS
  · refine xw_G (pc' := 13) (st' := [.ref 302, .int v1, .ref 302]) rfl rfl trivial ?_
    refine xw_G (pc' := 14) (st' := [.int x1, .ref 302, .int v1, .ref 302]) rfl rfl trivial ?_
    refine xw_G (pc' := 15) (st' := [.int (5 : Int32), .int x1, .ref 302, .int v1, .ref 302]) rfl rfl trivial ?_
    refine xb_e hf (fun v18 h19 e20 hf => ?_)
    refine xw_V (v := some (.int v18)) rfl rfl (xkf (xs_k hS rfl rfl : xm_k h2 302 = (11, 0))) (Nat.le_of_ble_eq_true rfl) (Nat.le_of_ble_eq_true rfl) (xm_Rn_le (Nat.le_of_ble_eq_true rfl) (t_X11_of  hS e20).1) ?_
    have hS := (t_X11_of  hS e20).2
    show xm_W _ _ _ 18 _ [.int v18, .int v1, .ref 302] _
    refine xw_G (pc' := 19) (st' := [.int x2, .int v18, .int v1, .ref 302]) rfl rfl trivial ?_
    refine xj_ic_eq rfl hf (fun hc21 hf => ?_) (fun hc21 hf => ?_)
    · refine xw_G (pc' := 27) (st' := [.int (0 : Int32), .int v1, .ref 302]) rfl rfl trivial ?_
      refine xb_e hf (fun v22 h23 e24 hf => ?_)
      refine xw_V (v := some (.int v22)) rfl rfl (xkf (xs_k hS rfl rfl : xm_k h19 302 = (11, 0))) (Nat.le_of_ble_eq_true rfl) (Nat.le_of_ble_eq_true rfl) (xm_Rn_le (Nat.le_of_ble_eq_true rfl) (t_X11_good_  hS e24).1) ?_
      have hS := (t_X11_good_  hS e24).2
      show xm_W _ _ _ 30 _ [.int v22] _
      refine xj_if_ne rfl hf (fun hc25 hf => ?_) (fun hc25 hf => ?_)
      · refine xw_G (pc' := 34) (st' := [.int (0 : Int32)]) rfl rfl trivial ?_
        exact xr_i (inj := xji) rfl rfl rfl rfl hf hQ hS
      · refine xw_G (pc' := 36) (st' := [.ref 302]) rfl rfl trivial ?_
        refine xb_e hf (fun v26 h27 e28 hf => ?_)
        refine xw_V (v := none) rfl rfl (xkf (xs_k hS rfl rfl : xm_k h23 302 = (11, 0))) (Nat.le_of_ble_eq_true rfl) (Nat.le_of_ble_eq_true rfl) (xm_Rn_le (Nat.le_of_ble_eq_true rfl) (t_X11_remember  hS e28).1) ?_
        have hS := (t_X11_remember  hS e28).2
        show xm_W _ _ _ 39 _ [] _
        refine xw_G (pc' := 40) (st' := [.ref 302]) rfl rfl trivial ?_
        refine xw_G (pc' := 41) (st' := [.int x1, .ref 302]) rfl rfl trivial ?_
        refine xw_G (pc' := 42) (st' := [.int (5 : Int32), .int x1, .ref 302]) rfl rfl trivial ?_
        refine xw_G (pc' := 43) (st' := [.int x2, .int (5 : Int32), .int x1, .ref 302]) rfl rfl trivial ?_
        refine xb_e hf (fun v29 h30 e31 hf => ?_)
        refine xw_V (v := none) rfl rfl (xkf (xs_k hS rfl rfl : xm_k h27 302 = (11, 0))) (Nat.le_of_ble_eq_true rfl) (Nat.le_of_ble_eq_true rfl) (xm_Rn_le (Nat.le_of_ble_eq_true rfl) (t_X11_set  hS e31).1) ?_
        have hS := (t_X11_set  hS e31).2
        show xm_W _ _ _ 46 _ [] _
        refine xw_G (pc' := 47) (st' := [.ref 302]) rfl rfl trivial ?_
        refine xw_G (pc' := 48) (st' := [.int x1, .ref 302]) rfl rfl trivial ?_
        refine xb_e hf (fun v32 h33 e34 hf => ?_)
        refine xw_V (v := some (.int v32)) rfl rfl (xkf (xs_k hS rfl rfl : xm_k h30 302 = (11, 0))) (Nat.le_of_ble_eq_true rfl) (Nat.le_of_ble_eq_true rfl) (xm_Rn_le (Nat.le_of_ble_eq_true rfl) (t_X11_leftOf  hS e34).1) ?_
        have hS := (t_X11_leftOf  hS e34).2
        show xm_W _ _ _ 51 _ [.int v32] _
        exact xr_i (inj := xji) rfl rfl rfl rfl hf hQ hS
    · refine xw_G (pc' := 23) (st' := [.int (1 : Int32), .int v1, .ref 302]) rfl rfl trivial ?_
      refine xw_G (pc' := 27) (st' := [.int (1 : Int32), .int v1, .ref 302]) rfl rfl trivial ?_
      refine xb_e hf (fun v35 h36 e37 hf => ?_)
      refine xw_V (v := some (.int v35)) rfl rfl (xkf (xs_k hS rfl rfl : xm_k h19 302 = (11, 0))) (Nat.le_of_ble_eq_true rfl) (Nat.le_of_ble_eq_true rfl) (xm_Rn_le (Nat.le_of_ble_eq_true rfl) (t_X11_good_  hS e37).1) ?_
      have hS := (t_X11_good_  hS e37).2
      show xm_W _ _ _ 30 _ [.int v35] _
      refine xj_if_ne rfl hf (fun hc38 hf => ?_) (fun hc38 hf => ?_)
      · refine xw_G (pc' := 34) (st' := [.int (0 : Int32)]) rfl rfl trivial ?_
        exact xr_i (inj := xji) rfl rfl rfl rfl hf hQ hS
      · refine xw_G (pc' := 36) (st' := [.ref 302]) rfl rfl trivial ?_
        refine xb_e hf (fun v39 h40 e41 hf => ?_)
        refine xw_V (v := none) rfl rfl (xkf (xs_k hS rfl rfl : xm_k h36 302 = (11, 0))) (Nat.le_of_ble_eq_true rfl) (Nat.le_of_ble_eq_true rfl) (xm_Rn_le (Nat.le_of_ble_eq_true rfl) (t_X11_remember  hS e41).1) ?_
        have hS := (t_X11_remember  hS e41).2
        show xm_W _ _ _ 39 _ [] _
        refine xw_G (pc' := 40) (st' := [.ref 302]) rfl rfl trivial ?_
        refine xw_G (pc' := 41) (st' := [.int x1, .ref 302]) rfl rfl trivial ?_
        refine xw_G (pc' := 42) (st' := [.int (5 : Int32), .int x1, .ref 302]) rfl rfl trivial ?_
        refine xw_G (pc' := 43) (st' := [.int x2, .int (5 : Int32), .int x1, .ref 302]) rfl rfl trivial ?_
        refine xb_e hf (fun v42 h43 e44 hf => ?_)
        refine xw_V (v := none) rfl rfl (xkf (xs_k hS rfl rfl : xm_k h40 302 = (11, 0))) (Nat.le_of_ble_eq_true rfl) (Nat.le_of_ble_eq_true rfl) (xm_Rn_le (Nat.le_of_ble_eq_true rfl) (t_X11_set  hS e44).1) ?_
        have hS := (t_X11_set  hS e44).2
        show xm_W _ _ _ 46 _ [] _
        refine xw_G (pc' := 47) (st' := [.ref 302]) rfl rfl trivial ?_
        refine xw_G (pc' := 48) (st' := [.int x1, .ref 302]) rfl rfl trivial ?_
        refine xb_e hf (fun v45 h46 e47 hf => ?_)
        refine xw_V (v := some (.int v45)) rfl rfl (xkf (xs_k hS rfl rfl : xm_k h43 302 = (11, 0))) (Nat.le_of_ble_eq_true rfl) (Nat.le_of_ble_eq_true rfl) (xm_Rn_le (Nat.le_of_ble_eq_true rfl) (t_X11_leftOf  hS e47).1) ?_
        have hS := (t_X11_leftOf  hS e47).2
        show xm_W _ _ _ 51 _ [.int v45] _
        exact xr_i (inj := xji) rfl rfl rfl rfl hf hQ hS
def f_X11_pause (N : Nat) (x1 : Int32) (h : xm_H) : Option (Int32 × xm_H) := (xb (f_X11_change N x1 (1 : Int32) h) fun v1 h2 => (some (v1, h2)))
theorem t_X11_pause {N : Nat} {ρ : Nat} {δ : Nat} {x1 : Int32} {h : xm_H} {w : Int32 × xm_H}  (hS : xS ρ δ h) (hf : f_X11_pause N x1 h = some w) : xm_Rn xX 4 223 [.ref 302, .int x1] h (xji w.1) w.2 ∧ xS ρ δ w.2 := by
  refine xt_mk (φ := fun h => xS ρ δ h) (M := xM_X11_pause) (ls := [some (.ref 302), some (.int x1)]) rfl (Nat.le_of_ble_eq_true rfl) rfl (fun Q hQ => ?_)
  unfold f_X11_pause at hf
  refine xw_G (pc' := 1) (st' := [.ref 302]) rfl rfl trivial ?_
  refine xw_G (pc' := 2) (st' := [.int x1, .ref 302]) rfl rfl trivial ?_
  refine xw_G (pc' := 3) (st' := [.int (1 : Int32), .int x1, .ref 302]) rfl rfl trivial ?_
  refine xb_e hf (fun v1 h2 e3 hf => ?_)
  refine xw_V (v := some (.int v1)) rfl rfl (xkf (xs_k hS rfl rfl : xm_k h 302 = (11, 0))) (Nat.le_of_ble_eq_true rfl) (Nat.le_of_ble_eq_true rfl) (xm_Rn_le (Nat.le_of_ble_eq_true rfl) (t_X11_change  hS e3).1) ?_
  have hS := (t_X11_change  hS e3).2
  show xm_W _ _ _ 6 _ [.int v1] _
  exact xr_i (inj := xji) rfl rfl rfl rfl hf hQ hS
def f_X10_resume (ρ : Nat) (x1 : Int32) (h : xm_H) : Option ((Int32 ⊕ Nat × Nat) × xm_H) := (xe (f_X10_requireCampaign ρ x1 h) (fun v1 h2 => (if xin x1 8 then (if (xm_i h2 208 (Int32.toNatClampNeg x1)) = 0 then (some (.inr (16, xm_n h2), xm_new h2 (16, 0))) else (xb (f_X3_remember h2) fun v6 h7 => (xl (xm_si h7 208 (Int32.toNatClampNeg x1) (0 : Int32)) fun h9 => (xb (f_X2_moneyLeft x1 h9) fun v11 h12 => (some (.inl v11, h12)))))) else none)) (fun q14 h15 => (some (.inr q14, h15))))
theorem t_X10_resume {ρ : Nat} {δ : Nat} {x1 : Int32} {h : xm_H} {w : (Int32 ⊕ Nat × Nat) × xm_H}  (hS : xS ρ δ h) (hf : f_X10_resume ρ x1 h = some w) : xm_Rn xX 3 104 [.ref 160, .int x1] h (xti w.1) w.2 ∧ xS ρ δ w.2 := by
  refine xt_mk (φ := fun h => xS ρ δ h) (M := xM_X10_resume) (ls := [some (.ref 160), some (.int x1)]) rfl (Nat.le_of_ble_eq_true rfl) rfl (fun Q hQ => ?_)
  unfold f_X10_resume at hf
  refine xw_G (pc' := 1) (st' := [.ref 160]) rfl rfl trivial ?_
  refine xw_G (pc' := 2) (st' := [.int x1, .ref 160]) rfl rfl trivial ?_
  refine xe_e hf (fun v1 h2 e3 hf => ?_) (fun q14 h15 e3 hf => ?_)
  · refine xw_V (v := none) rfl rfl (xkf (xs_k hS rfl rfl : xm_k h 160 = (0, 0))) (Nat.le_of_ble_eq_true rfl) (Nat.le_of_ble_eq_true rfl) (xm_Rn_le (Nat.le_of_ble_eq_true rfl) (t_X10_requireCampaign  hS e3).1) ?_
    have hS := (t_X10_requireCampaign  hS e3).2
    show xm_W _ _ _ 5 _ [] _
    refine xw_G (pc' := 6) (st' := [.ref 160]) rfl rfl trivial ?_
    refine xw_gr rfl (xkf (xs_k hS rfl rfl : xm_k h2 160 = (0, 0))) (xs_r hS rfl) ?_
    refine xw_gr rfl (xkf (xs_k hS rfl rfl : xm_k h2 182 = (3, 0))) (xs_r hS rfl) ?_
    refine xw_gr rfl (xkf (xs_k hS rfl rfl : xm_k h2 201 = (8, 0))) (xs_r hS rfl) ?_
    refine xw_G (pc' := 16) (st' := [.int x1, .ref 208]) rfl rfl trivial ?_
    refine xg_e hf (fun hg4 hf => ?_)
    refine xa_ld (t := 101) (τ := 0) (v := .int (xm_i h2 208 (Int32.toNatClampNeg x1))) rfl rfl (xkf (xs_k hS rfl rfl : xm_k h2 208 = (101, 8))) (xkn (xs_k hS rfl rfl : xm_k h2 208 = (101, 8))) hg4 rfl ?_
    refine xj_if_ne rfl hf (fun hc5 hf => ?_) (fun hc5 hf => ?_)
    · exact xr_t (inj := xti) rfl (Nat.le_of_ble_eq_true rfl) rfl hf hQ (xS_new hS rfl)
    · refine xw_G (pc' := 32) (st' := [.ref 160]) rfl rfl trivial ?_
      refine xw_gr rfl (xkf (xs_k hS rfl rfl : xm_k h2 160 = (0, 0))) (xs_r hS rfl) ?_
      refine xw_G (pc' := 36) (st' := [.ref 160, .ref 234]) rfl rfl trivial ?_
      refine xw_gr rfl (xkf (xs_k hS rfl rfl : xm_k h2 160 = (0, 0))) (xs_r hS rfl) ?_
      refine xw_gr rfl (xkf (xs_k hS rfl rfl : xm_k h2 182 = (3, 0))) (xs_r hS rfl) ?_
      refine xb_e hf (fun v6 h7 e8 hf => ?_)
      refine xw_V (v := none) rfl rfl (xkf (xs_k hS rfl rfl : xm_k h2 234 = (4, 0))) (Nat.le_of_ble_eq_true rfl) (Nat.le_of_ble_eq_true rfl) (xm_Rn_le (Nat.le_of_ble_eq_true rfl) (t_X3_remember  hS e8).1) ?_
      have hS := (t_X3_remember  hS e8).2
      show xm_W _ _ _ 45 _ [] _
      refine xw_G (pc' := 46) (st' := [.ref 160]) rfl rfl trivial ?_
      refine xw_gr rfl (xkf (xs_k hS rfl rfl : xm_k h7 160 = (0, 0))) (xs_r hS rfl) ?_
      refine xw_gr rfl (xkf (xs_k hS rfl rfl : xm_k h7 182 = (3, 0))) (xs_r hS rfl) ?_
      refine xw_gr rfl (xkf (xs_k hS rfl rfl : xm_k h7 201 = (8, 0))) (xs_r hS rfl) ?_
      refine xw_G (pc' := 56) (st' := [.int x1, .ref 208]) rfl rfl trivial ?_
      refine xw_G (pc' := 57) (st' := [.int (0 : Int32), .int x1, .ref 208]) rfl rfl trivial ?_
      refine xa_z rfl (xkf (xs_k hS rfl rfl : xm_k h7 208 = (101, 8))) (xkn (xs_k hS rfl rfl : xm_k h7 208 = (101, 8))) hg4 (Nat.le_of_ble_eq_true rfl) hf (fun h9 e10 hf => ?_)
      have hS := xS_si hS e10
      refine xw_G (pc' := 59) (st' := [.ref 160]) rfl rfl trivial ?_
      refine xw_gr rfl (xkf (xs_k hS rfl rfl : xm_k h9 160 = (0, 0))) (xs_r hS rfl) ?_
      refine xw_G (pc' := 63) (st' := [.int x1, .ref 182]) rfl rfl trivial ?_
      refine xb_e hf (fun v11 h12 e13 hf => ?_)
      refine xw_V (v := some (.int v11)) rfl rfl (xkf (xs_k hS rfl rfl : xm_k h9 182 = (3, 0))) (Nat.le_of_ble_eq_true rfl) (Nat.le_of_ble_eq_true rfl) (xm_Rn_le (Nat.le_of_ble_eq_true rfl) (t_X2_moneyLeft  hS e13).1) ?_
      have hS := (t_X2_moneyLeft  hS e13).2
      show xm_W _ _ _ 66 _ [.int v11] _
      exact xr_i (inj := xti) rfl rfl rfl rfl hf hQ hS
  · refine xw_VX (x := q14) rfl rfl (xkf (xs_k hS rfl rfl : xm_k h 160 = (0, 0))) (Nat.le_of_ble_eq_true rfl) (Nat.le_of_ble_eq_true rfl) (xm_Rn_le (Nat.le_of_ble_eq_true rfl) (t_X10_requireCampaign  hS e3).1) rfl ?_
    have hS := (t_X10_requireCampaign  hS e3).2
    exact xr_x (inj := xti) rfl hf hQ hS
def f_L_resume (ρ : Nat) (x1 : Int32) (h : xm_H) : Option (Int32 × xm_H) := (xe (f_X10_resume ρ x1 h) (fun v1 h2 => (xl (xm_sl h2 316 0 (Int32.toInt64 v1)) fun h4 => (some ((0 : Int32), h4)))) (fun q6 h7 => (if (q6).1 = 14 then (some ((1 : Int32), h7)) else (if (q6).1 = 16 then (some ((2 : Int32), h7)) else none))))
theorem t_L_resume {ρ : Nat} {δ : Nat} {x1 : Int32} {h : xm_H} {w : Int32 × xm_H}  (hS : xS ρ δ h) (hf : f_L_resume ρ x1 h = some w) : xm_Rn xX 4 349 [.ref 160, .int x1, .ref 316] h (xji w.1) w.2 ∧ xS ρ δ w.2 := by
  refine xt_mk (φ := fun h => xS ρ δ h) (M := xM_L_resume) (ls := [some (.ref 160), some (.int x1), some (.ref 316), none]) rfl (Nat.le_of_ble_eq_true rfl) rfl (fun Q hQ => ?_)
  unfold f_L_resume at hf
  refine xw_G (pc' := 1) (st' := [.ref 316]) rfl rfl trivial ?_
  refine xw_G (pc' := 2) (st' := [.int (0 : Int32), .ref 316]) rfl rfl trivial ?_
  refine xw_G (pc' := 3) (st' := [.ref 160, .int (0 : Int32), .ref 316]) rfl rfl trivial ?_
  refine xw_G (pc' := 4) (st' := [.int x1, .ref 160, .int (0 : Int32), .ref 316]) rfl rfl trivial ?_
  refine xe_e hf (fun v1 h2 e3 hf => ?_) (fun q6 h7 e3 hf => ?_)
  · refine xw_V (v := some (.int v1)) rfl rfl (xkf (xs_k hS rfl rfl : xm_k h 160 = (0, 0))) (Nat.le_of_ble_eq_true rfl) (Nat.le_of_ble_eq_true rfl) (xm_Rn_le (Nat.le_of_ble_eq_true rfl) (t_X10_resume  hS e3).1) ?_
    have hS := (t_X10_resume  hS e3).2
    show xm_W _ _ _ 7 _ [.int v1, .int (0 : Int32), .ref 316] _
    refine xw_G (pc' := 8) (st' := [.long (Int32.toInt64 v1), .int (0 : Int32), .ref 316]) rfl rfl trivial ?_
    refine xa_l rfl (xkf (xs_k hS rfl rfl : xm_k h2 316 = (104, 1))) (xkn (xs_k hS rfl rfl : xm_k h2 316 = (104, 1))) (by decide : xin (0 : Int32) 1) (Nat.le_of_ble_eq_true rfl) hf (fun h4 e5 hf => ?_)
    have hS := xS_sl hS e5
    refine xw_G (pc' := 18) (st' := []) rfl rfl trivial ?_
    refine xw_G (pc' := 19) (st' := [.int (0 : Int32)]) rfl rfl trivial ?_
    exact xr_i (inj := xji) rfl rfl rfl rfl hf hQ hS
  · by_cases hc8 : (q6).1 = 14
    · rw [if_pos hc8] at hf
      refine xw_VH (x := q6) (p := 12) rfl rfl (xkf (xs_k hS rfl rfl : xm_k h 160 = (0, 0))) (Nat.le_of_ble_eq_true rfl) (Nat.le_of_ble_eq_true rfl) (xm_Rn_le (Nat.le_of_ble_eq_true rfl) (t_X10_resume  hS e3).1) (by rw [hc8]; rfl) ?_
      have hS := (t_X10_resume  hS e3).2
      refine xw_G (pc' := 13) (ls' := [some (.ref 160), some (.int x1), some (.ref 316), some (.ref ((q6).2))]) (st' := []) rfl rfl (Nat.le_of_ble_eq_true rfl) ?_
      refine xw_G (pc' := 14) (st' := [.int (1 : Int32)]) rfl rfl trivial ?_
      exact xr_i (inj := xji) rfl rfl rfl rfl hf hQ hS
    · rw [if_neg hc8] at hf
      by_cases hc8 : (q6).1 = 16
      · rw [if_pos hc8] at hf
        refine xw_VH (x := q6) (p := 15) rfl rfl (xkf (xs_k hS rfl rfl : xm_k h 160 = (0, 0))) (Nat.le_of_ble_eq_true rfl) (Nat.le_of_ble_eq_true rfl) (xm_Rn_le (Nat.le_of_ble_eq_true rfl) (t_X10_resume  hS e3).1) (by rw [hc8]; rfl) ?_
        have hS := (t_X10_resume  hS e3).2
        refine xw_G (pc' := 16) (ls' := [some (.ref 160), some (.int x1), some (.ref 316), some (.ref ((q6).2))]) (st' := []) rfl rfl (Nat.le_of_ble_eq_true rfl) ?_
        refine xw_G (pc' := 17) (st' := [.int (2 : Int32)]) rfl rfl trivial ?_
        exact xr_i (inj := xji) rfl rfl rfl rfl hf hQ hS
      · rw [if_neg hc8] at hf
        exact (xn_e hf).elim
def f_X11_resume (N : Nat) (x1 : Int32) (h : xm_H) : Option (Int32 × xm_H) := (xb (f_X11_change N x1 (0 : Int32) h) fun v1 h2 => (some (v1, h2)))
theorem t_X11_resume {N : Nat} {ρ : Nat} {δ : Nat} {x1 : Int32} {h : xm_H} {w : Int32 × xm_H}  (hS : xS ρ δ h) (hf : f_X11_resume N x1 h = some w) : xm_Rn xX 4 224 [.ref 302, .int x1] h (xji w.1) w.2 ∧ xS ρ δ w.2 := by
  refine xt_mk (φ := fun h => xS ρ δ h) (M := xM_X11_resume) (ls := [some (.ref 302), some (.int x1)]) rfl (Nat.le_of_ble_eq_true rfl) rfl (fun Q hQ => ?_)
  unfold f_X11_resume at hf
  refine xw_G (pc' := 1) (st' := [.ref 302]) rfl rfl trivial ?_
  refine xw_G (pc' := 2) (st' := [.int x1, .ref 302]) rfl rfl trivial ?_
  refine xw_G (pc' := 3) (st' := [.int (0 : Int32), .int x1, .ref 302]) rfl rfl trivial ?_
  refine xb_e hf (fun v1 h2 e3 hf => ?_)
  refine xw_V (v := some (.int v1)) rfl rfl (xkf (xs_k hS rfl rfl : xm_k h 302 = (11, 0))) (Nat.le_of_ble_eq_true rfl) (Nat.le_of_ble_eq_true rfl) (xm_Rn_le (Nat.le_of_ble_eq_true rfl) (t_X11_change  hS e3).1) ?_
  have hS := (t_X11_change  hS e3).2
  show xm_W _ _ _ 6 _ [.int v1] _
  exact xr_i (inj := xji) rfl rfl rfl rfl hf hQ hS
def f_X10_setBid (ρ : Nat) (x1 : Int32) (x2 : Int32) (h : xm_H) : Option ((Int32 ⊕ Nat × Nat) × xm_H) := (xe (f_X10_requireCampaign ρ x1 h) (fun v1 h2 => (xe (f_X10_requireRange x2 (1 : Int32) (999 : Int32) h2) (fun v4 h5 => (xb (f_X3_remember h5) fun v7 h8 => (if xin x1 8 then (xl (xm_si h8 203 (Int32.toNatClampNeg x1) x2) fun h11 => (some (.inl (xm_i h8 203 (Int32.toNatClampNeg x1)), h11))) else none))) (fun q13 h14 => (some (.inr q13, h14))))) (fun q16 h17 => (some (.inr q16, h17))))
theorem t_X10_setBid {ρ : Nat} {δ : Nat} {x1 : Int32} {x2 : Int32} {h : xm_H} {w : (Int32 ⊕ Nat × Nat) × xm_H}  (hS : xS ρ δ h) (hf : f_X10_setBid ρ x1 x2 h = some w) : xm_Rn xX 3 105 [.ref 160, .int x1, .int x2] h (xti w.1) w.2 ∧ xS ρ δ w.2 := by
  refine xt_mk (φ := fun h => xS ρ δ h) (M := xM_X10_setBid) (ls := [some (.ref 160), some (.int x1), some (.int x2), none]) rfl (Nat.le_of_ble_eq_true rfl) rfl (fun Q hQ => ?_)
  unfold f_X10_setBid at hf
  refine xw_G (pc' := 1) (st' := [.ref 160]) rfl rfl trivial ?_
  refine xw_G (pc' := 2) (st' := [.int x1, .ref 160]) rfl rfl trivial ?_
  refine xe_e hf (fun v1 h2 e3 hf => ?_) (fun q16 h17 e3 hf => ?_)
  · refine xw_V (v := none) rfl rfl (xkf (xs_k hS rfl rfl : xm_k h 160 = (0, 0))) (Nat.le_of_ble_eq_true rfl) (Nat.le_of_ble_eq_true rfl) (xm_Rn_le (Nat.le_of_ble_eq_true rfl) (t_X10_requireCampaign  hS e3).1) ?_
    have hS := (t_X10_requireCampaign  hS e3).2
    show xm_W _ _ _ 5 _ [] _
    refine xw_G (pc' := 6) (st' := [.int x2]) rfl rfl trivial ?_
    refine xw_G (pc' := 7) (st' := [.int (1 : Int32), .int x2]) rfl rfl trivial ?_
    refine xw_G (pc' := 10) (st' := [.int (999 : Int32), .int (1 : Int32), .int x2]) rfl rfl trivial ?_
    refine xe_e hf (fun v4 h5 e6 hf => ?_) (fun q13 h14 e6 hf => ?_)
    · refine xw_S (v := none) rfl (Nat.le_of_ble_eq_true rfl) (Nat.le_of_ble_eq_true rfl) (xm_Rn_le (Nat.le_of_ble_eq_true rfl) (t_X10_requireRange  hS e6).1) ?_
      have hS := (t_X10_requireRange  hS e6).2
      show xm_W _ _ _ 13 _ [] _
      refine xw_G (pc' := 14) (st' := [.ref 160]) rfl rfl trivial ?_
      refine xw_gr rfl (xkf (xs_k hS rfl rfl : xm_k h5 160 = (0, 0))) (xs_r hS rfl) ?_
      refine xw_G (pc' := 18) (st' := [.ref 160, .ref 234]) rfl rfl trivial ?_
      refine xw_gr rfl (xkf (xs_k hS rfl rfl : xm_k h5 160 = (0, 0))) (xs_r hS rfl) ?_
      refine xw_gr rfl (xkf (xs_k hS rfl rfl : xm_k h5 182 = (3, 0))) (xs_r hS rfl) ?_
      refine xb_e hf (fun v7 h8 e9 hf => ?_)
      refine xw_V (v := none) rfl rfl (xkf (xs_k hS rfl rfl : xm_k h5 234 = (4, 0))) (Nat.le_of_ble_eq_true rfl) (Nat.le_of_ble_eq_true rfl) (xm_Rn_le (Nat.le_of_ble_eq_true rfl) (t_X3_remember  hS e9).1) ?_
      have hS := (t_X3_remember  hS e9).2
      show xm_W _ _ _ 27 _ [] _
      refine xw_G (pc' := 28) (st' := [.ref 160]) rfl rfl trivial ?_
      refine xw_gr rfl (xkf (xs_k hS rfl rfl : xm_k h8 160 = (0, 0))) (xs_r hS rfl) ?_
      refine xw_gr rfl (xkf (xs_k hS rfl rfl : xm_k h8 182 = (3, 0))) (xs_r hS rfl) ?_
      refine xw_gr rfl (xkf (xs_k hS rfl rfl : xm_k h8 201 = (8, 0))) (xs_r hS rfl) ?_
      refine xw_G (pc' := 38) (st' := [.int x1, .ref 203]) rfl rfl trivial ?_
      refine xg_e hf (fun hg10 hf => ?_)
      refine xa_ld (t := 100) (τ := 0) (v := .int (xm_i h8 203 (Int32.toNatClampNeg x1))) rfl rfl (xkf (xs_k hS rfl rfl : xm_k h8 203 = (100, 8))) (xkn (xs_k hS rfl rfl : xm_k h8 203 = (100, 8))) hg10 rfl ?_
      refine xw_G (pc' := 40) (ls' := [some (.ref 160), some (.int x1), some (.int x2), some (.int (xm_i h8 203 (Int32.toNatClampNeg x1)))]) (st' := []) rfl rfl (Nat.le_of_ble_eq_true rfl) ?_
      refine xw_G (pc' := 41) (st' := [.ref 160]) rfl rfl trivial ?_
      refine xw_gr rfl (xkf (xs_k hS rfl rfl : xm_k h8 160 = (0, 0))) (xs_r hS rfl) ?_
      refine xw_gr rfl (xkf (xs_k hS rfl rfl : xm_k h8 182 = (3, 0))) (xs_r hS rfl) ?_
      refine xw_gr rfl (xkf (xs_k hS rfl rfl : xm_k h8 201 = (8, 0))) (xs_r hS rfl) ?_
      refine xw_G (pc' := 51) (st' := [.int x1, .ref 203]) rfl rfl trivial ?_
      refine xw_G (pc' := 52) (st' := [.int x2, .int x1, .ref 203]) rfl rfl trivial ?_
      refine xa_i rfl (xkf (xs_k hS rfl rfl : xm_k h8 203 = (100, 8))) (xkn (xs_k hS rfl rfl : xm_k h8 203 = (100, 8))) hg10 (Nat.le_of_ble_eq_true rfl) hf (fun h11 e12 hf => ?_)
      have hS := xS_si hS e12
      refine xw_G (pc' := 54) (st' := [.int (xm_i h8 203 (Int32.toNatClampNeg x1))]) rfl rfl trivial ?_
      exact xr_i (inj := xti) rfl rfl rfl rfl hf hQ hS
    · refine xw_SX (x := q13) rfl (Nat.le_of_ble_eq_true rfl) (Nat.le_of_ble_eq_true rfl) (xm_Rn_le (Nat.le_of_ble_eq_true rfl) (t_X10_requireRange  hS e6).1) rfl ?_
      have hS := (t_X10_requireRange  hS e6).2
      exact xr_x (inj := xti) rfl hf hQ hS
  · refine xw_VX (x := q16) rfl rfl (xkf (xs_k hS rfl rfl : xm_k h 160 = (0, 0))) (Nat.le_of_ble_eq_true rfl) (Nat.le_of_ble_eq_true rfl) (xm_Rn_le (Nat.le_of_ble_eq_true rfl) (t_X10_requireCampaign  hS e3).1) rfl ?_
    have hS := (t_X10_requireCampaign  hS e3).2
    exact xr_x (inj := xti) rfl hf hQ hS
def f_L_setBid (ρ : Nat) (x1 : Int32) (x2 : Int32) (h : xm_H) : Option (Int32 × xm_H) := (xe (f_X10_setBid ρ x1 x2 h) (fun v1 h2 => (xl (xm_sl h2 316 0 (Int32.toInt64 v1)) fun h4 => (some ((0 : Int32), h4)))) (fun q6 h7 => (if (q6).1 = 14 then (some ((1 : Int32), h7)) else (if (q6).1 = 15 then (some ((2 : Int32), h7)) else none))))
theorem t_L_setBid {ρ : Nat} {δ : Nat} {x1 : Int32} {x2 : Int32} {h : xm_H} {w : Int32 × xm_H}  (hS : xS ρ δ h) (hf : f_L_setBid ρ x1 x2 h = some w) : xm_Rn xX 4 350 [.ref 160, .int x1, .int x2, .ref 316] h (xji w.1) w.2 ∧ xS ρ δ w.2 := by
  refine xt_mk (φ := fun h => xS ρ δ h) (M := xM_L_setBid) (ls := [some (.ref 160), some (.int x1), some (.int x2), some (.ref 316), none]) rfl (Nat.le_of_ble_eq_true rfl) rfl (fun Q hQ => ?_)
  unfold f_L_setBid at hf
  refine xw_G (pc' := 1) (st' := [.ref 316]) rfl rfl trivial ?_
  refine xw_G (pc' := 2) (st' := [.int (0 : Int32), .ref 316]) rfl rfl trivial ?_
  refine xw_G (pc' := 3) (st' := [.ref 160, .int (0 : Int32), .ref 316]) rfl rfl trivial ?_
  refine xw_G (pc' := 4) (st' := [.int x1, .ref 160, .int (0 : Int32), .ref 316]) rfl rfl trivial ?_
  refine xw_G (pc' := 5) (st' := [.int x2, .int x1, .ref 160, .int (0 : Int32), .ref 316]) rfl rfl trivial ?_
  refine xe_e hf (fun v1 h2 e3 hf => ?_) (fun q6 h7 e3 hf => ?_)
  · refine xw_V (v := some (.int v1)) rfl rfl (xkf (xs_k hS rfl rfl : xm_k h 160 = (0, 0))) (Nat.le_of_ble_eq_true rfl) (Nat.le_of_ble_eq_true rfl) (xm_Rn_le (Nat.le_of_ble_eq_true rfl) (t_X10_setBid  hS e3).1) ?_
    have hS := (t_X10_setBid  hS e3).2
    show xm_W _ _ _ 8 _ [.int v1, .int (0 : Int32), .ref 316] _
    refine xw_G (pc' := 9) (st' := [.long (Int32.toInt64 v1), .int (0 : Int32), .ref 316]) rfl rfl trivial ?_
    refine xa_l rfl (xkf (xs_k hS rfl rfl : xm_k h2 316 = (104, 1))) (xkn (xs_k hS rfl rfl : xm_k h2 316 = (104, 1))) (by decide : xin (0 : Int32) 1) (Nat.le_of_ble_eq_true rfl) hf (fun h4 e5 hf => ?_)
    have hS := xS_sl hS e5
    refine xw_G (pc' := 21) (st' := []) rfl rfl trivial ?_
    refine xw_G (pc' := 22) (st' := [.int (0 : Int32)]) rfl rfl trivial ?_
    exact xr_i (inj := xji) rfl rfl rfl rfl hf hQ hS
  · by_cases hc8 : (q6).1 = 14
    · rw [if_pos hc8] at hf
      refine xw_VH (x := q6) (p := 13) rfl rfl (xkf (xs_k hS rfl rfl : xm_k h 160 = (0, 0))) (Nat.le_of_ble_eq_true rfl) (Nat.le_of_ble_eq_true rfl) (xm_Rn_le (Nat.le_of_ble_eq_true rfl) (t_X10_setBid  hS e3).1) (by rw [hc8]; rfl) ?_
      have hS := (t_X10_setBid  hS e3).2
      refine xw_G (pc' := 15) (ls' := [some (.ref 160), some (.int x1), some (.int x2), some (.ref 316), some (.ref ((q6).2))]) (st' := []) rfl rfl (Nat.le_of_ble_eq_true rfl) ?_
      refine xw_G (pc' := 16) (st' := [.int (1 : Int32)]) rfl rfl trivial ?_
      exact xr_i (inj := xji) rfl rfl rfl rfl hf hQ hS
    · rw [if_neg hc8] at hf
      by_cases hc8 : (q6).1 = 15
      · rw [if_pos hc8] at hf
        refine xw_VH (x := q6) (p := 17) rfl rfl (xkf (xs_k hS rfl rfl : xm_k h 160 = (0, 0))) (Nat.le_of_ble_eq_true rfl) (Nat.le_of_ble_eq_true rfl) (xm_Rn_le (Nat.le_of_ble_eq_true rfl) (t_X10_setBid  hS e3).1) (by rw [hc8]; rfl) ?_
        have hS := (t_X10_setBid  hS e3).2
        refine xw_G (pc' := 19) (ls' := [some (.ref 160), some (.int x1), some (.int x2), some (.ref 316), some (.ref ((q6).2))]) (st' := []) rfl rfl (Nat.le_of_ble_eq_true rfl) ?_
        refine xw_G (pc' := 20) (st' := [.int (2 : Int32)]) rfl rfl trivial ?_
        exact xr_i (inj := xji) rfl rfl rfl rfl hf hQ hS
      · rw [if_neg hc8] at hf
        exact (xn_e hf).elim
def f_X11_setBid (N : Nat) (x1 : Int32) (x2 : Int32) (h : xm_H) : Option (Int32 × xm_H) := (xb (f_X11_isCampaign x1 h) fun v1 h2 => (xb (f_X11_between (Int32.toInt64 x2) (1 : Int64) (999 : Int64) h2) fun v4 h5 => (xb (f_X11_good_ v1 v4 h5) fun v7 h8 => (if v7 = 0 then (some ((0 : Int32), h8)) else (xb (f_X11_remember N h8) fun v11 h12 => (xb (f_X11_of x1 (0 : Int32) h12) fun v14 h15 => (xb (f_X11_set x1 (0 : Int32) x2 h15) fun v17 h18 => (some (v14, h18)))))))))
theorem t_X11_setBid {N : Nat} {ρ : Nat} {δ : Nat} {x1 : Int32} {x2 : Int32} {h : xm_H} {w : Int32 × xm_H}  (hS : xS ρ δ h) (hf : f_X11_setBid N x1 x2 h = some w) : xm_Rn xX 3 225 [.ref 302, .int x1, .int x2] h (xji w.1) w.2 ∧ xS ρ δ w.2 := by
  refine xt_mk (φ := fun h => xS ρ δ h) (M := xM_X11_setBid) (ls := [some (.ref 302), some (.int x1), some (.int x2), none]) rfl (Nat.le_of_ble_eq_true rfl) rfl (fun Q hQ => ?_)
  unfold f_X11_setBid at hf
  refine xw_G (pc' := 1) (st' := [.ref 302]) rfl rfl trivial ?_
  refine xw_G (pc' := 2) (st' := [.ref 302, .ref 302]) rfl rfl trivial ?_
  refine xw_G (pc' := 3) (st' := [.int x1, .ref 302, .ref 302]) rfl rfl trivial ?_
  refine xb_e hf (fun v1 h2 e3 hf => ?_)
  refine xw_V (v := some (.int v1)) rfl rfl (xkf (xs_k hS rfl rfl : xm_k h 302 = (11, 0))) (Nat.le_of_ble_eq_true rfl) (Nat.le_of_ble_eq_true rfl) (xm_Rn_le (Nat.le_of_ble_eq_true rfl) (t_X11_isCampaign  hS e3).1) ?_
  have hS := (t_X11_isCampaign  hS e3).2
  show xm_W _ _ _ 6 _ [.int v1, .ref 302] _
  refine xw_G (pc' := 7) (st' := [.int x2, .int v1, .ref 302]) rfl rfl trivial ?_
  refine xw_G (pc' := 8) (st' := [.long (Int32.toInt64 x2), .int v1, .ref 302]) rfl rfl trivial ?_
  refine xw_G (pc' := 9) (st' := [.long (1 : Int64), .long (Int32.toInt64 x2), .int v1, .ref 302]) rfl rfl trivial ?_
  refine xw_G (pc' := 12) (st' := [.long (999 : Int64), .long (1 : Int64), .long (Int32.toInt64 x2), .int v1, .ref 302]) rfl rfl trivial ?_
  refine xb_e hf (fun v4 h5 e6 hf => ?_)
  refine xw_S (v := some (.int v4)) rfl (Nat.le_of_ble_eq_true rfl) (Nat.le_of_ble_eq_true rfl) (xm_Rn_le (Nat.le_of_ble_eq_true rfl) (t_X11_between  hS e6).1) ?_
  have hS := (t_X11_between  hS e6).2
  show xm_W _ _ _ 15 _ [.int v4, .int v1, .ref 302] _
  refine xb_e hf (fun v7 h8 e9 hf => ?_)
  refine xw_V (v := some (.int v7)) rfl rfl (xkf (xs_k hS rfl rfl : xm_k h5 302 = (11, 0))) (Nat.le_of_ble_eq_true rfl) (Nat.le_of_ble_eq_true rfl) (xm_Rn_le (Nat.le_of_ble_eq_true rfl) (t_X11_good_  hS e9).1) ?_
  have hS := (t_X11_good_  hS e9).2
  show xm_W _ _ _ 18 _ [.int v7] _
  refine xj_if_ne rfl hf (fun hc10 hf => ?_) (fun hc10 hf => ?_)
  · refine xw_G (pc' := 22) (st' := [.int (0 : Int32)]) rfl rfl trivial ?_
    exact xr_i (inj := xji) rfl rfl rfl rfl hf hQ hS
  · refine xw_G (pc' := 24) (st' := [.ref 302]) rfl rfl trivial ?_
    refine xb_e hf (fun v11 h12 e13 hf => ?_)
    refine xw_V (v := none) rfl rfl (xkf (xs_k hS rfl rfl : xm_k h8 302 = (11, 0))) (Nat.le_of_ble_eq_true rfl) (Nat.le_of_ble_eq_true rfl) (xm_Rn_le (Nat.le_of_ble_eq_true rfl) (t_X11_remember  hS e13).1) ?_
    have hS := (t_X11_remember  hS e13).2
    show xm_W _ _ _ 27 _ [] _
    refine xw_G (pc' := 28) (st' := [.ref 302]) rfl rfl trivial ?_
    refine xw_G (pc' := 29) (st' := [.int x1, .ref 302]) rfl rfl trivial ?_
    refine xw_G (pc' := 30) (st' := [.int (0 : Int32), .int x1, .ref 302]) rfl rfl trivial ?_
    refine xb_e hf (fun v14 h15 e16 hf => ?_)
    refine xw_V (v := some (.int v14)) rfl rfl (xkf (xs_k hS rfl rfl : xm_k h12 302 = (11, 0))) (Nat.le_of_ble_eq_true rfl) (Nat.le_of_ble_eq_true rfl) (xm_Rn_le (Nat.le_of_ble_eq_true rfl) (t_X11_of  hS e16).1) ?_
    have hS := (t_X11_of  hS e16).2
    show xm_W _ _ _ 33 _ [.int v14] _
    refine xw_G (pc' := 34) (ls' := [some (.ref 302), some (.int x1), some (.int x2), some (.int v14)]) (st' := []) rfl rfl (Nat.le_of_ble_eq_true rfl) ?_
    refine xw_G (pc' := 35) (st' := [.ref 302]) rfl rfl trivial ?_
    refine xw_G (pc' := 36) (st' := [.int x1, .ref 302]) rfl rfl trivial ?_
    refine xw_G (pc' := 37) (st' := [.int (0 : Int32), .int x1, .ref 302]) rfl rfl trivial ?_
    refine xw_G (pc' := 38) (st' := [.int x2, .int (0 : Int32), .int x1, .ref 302]) rfl rfl trivial ?_
    refine xb_e hf (fun v17 h18 e19 hf => ?_)
    refine xw_V (v := none) rfl rfl (xkf (xs_k hS rfl rfl : xm_k h15 302 = (11, 0))) (Nat.le_of_ble_eq_true rfl) (Nat.le_of_ble_eq_true rfl) (xm_Rn_le (Nat.le_of_ble_eq_true rfl) (t_X11_set  hS e19).1) ?_
    have hS := (t_X11_set  hS e19).2
    show xm_W _ _ _ 41 _ [] _
    refine xw_G (pc' := 42) (st' := [.int v14]) rfl rfl trivial ?_
    exact xr_i (inj := xji) rfl rfl rfl rfl hf hQ hS
def f_X10_setBudget (ρ : Nat) (x1 : Int32) (x2 : Int32) (h : xm_H) : Option ((Int32 ⊕ Nat × Nat) × xm_H) := (xe (f_X10_requireCampaign ρ x1 h) (fun v1 h2 => (xe (f_X10_requireRange x2 (1 : Int32) (9999 : Int32) h2) (fun v4 h5 => (if xin x1 8 then (if x2 < (xm_i h5 206 (Int32.toNatClampNeg x1)) then (some (.inr (16, xm_n h5), xm_new h5 (16, 0))) else (xb (f_X3_remember h5) fun v9 h10 => (xl (xm_si h10 204 (Int32.toNatClampNeg x1) x2) fun h12 => (some (.inl (xm_i h10 204 (Int32.toNatClampNeg x1)), h12))))) else none)) (fun q14 h15 => (some (.inr q14, h15))))) (fun q17 h18 => (some (.inr q17, h18))))
theorem t_X10_setBudget {ρ : Nat} {δ : Nat} {x1 : Int32} {x2 : Int32} {h : xm_H} {w : (Int32 ⊕ Nat × Nat) × xm_H}  (hS : xS ρ δ h) (hf : f_X10_setBudget ρ x1 x2 h = some w) : xm_Rn xX 3 106 [.ref 160, .int x1, .int x2] h (xti w.1) w.2 ∧ xS ρ δ w.2 := by
  refine xt_mk (φ := fun h => xS ρ δ h) (M := xM_X10_setBudget) (ls := [some (.ref 160), some (.int x1), some (.int x2), none]) rfl (Nat.le_of_ble_eq_true rfl) rfl (fun Q hQ => ?_)
  unfold f_X10_setBudget at hf
  refine xw_G (pc' := 1) (st' := [.ref 160]) rfl rfl trivial ?_
  refine xw_G (pc' := 2) (st' := [.int x1, .ref 160]) rfl rfl trivial ?_
  refine xe_e hf (fun v1 h2 e3 hf => ?_) (fun q17 h18 e3 hf => ?_)
  · refine xw_V (v := none) rfl rfl (xkf (xs_k hS rfl rfl : xm_k h 160 = (0, 0))) (Nat.le_of_ble_eq_true rfl) (Nat.le_of_ble_eq_true rfl) (xm_Rn_le (Nat.le_of_ble_eq_true rfl) (t_X10_requireCampaign  hS e3).1) ?_
    have hS := (t_X10_requireCampaign  hS e3).2
    show xm_W _ _ _ 5 _ [] _
    refine xw_G (pc' := 6) (st' := [.int x2]) rfl rfl trivial ?_
    refine xw_G (pc' := 7) (st' := [.int (1 : Int32), .int x2]) rfl rfl trivial ?_
    refine xw_G (pc' := 10) (st' := [.int (9999 : Int32), .int (1 : Int32), .int x2]) rfl rfl trivial ?_
    refine xe_e hf (fun v4 h5 e6 hf => ?_) (fun q14 h15 e6 hf => ?_)
    · refine xw_S (v := none) rfl (Nat.le_of_ble_eq_true rfl) (Nat.le_of_ble_eq_true rfl) (xm_Rn_le (Nat.le_of_ble_eq_true rfl) (t_X10_requireRange  hS e6).1) ?_
      have hS := (t_X10_requireRange  hS e6).2
      show xm_W _ _ _ 13 _ [] _
      refine xw_G (pc' := 14) (st' := [.ref 160]) rfl rfl trivial ?_
      refine xw_gr rfl (xkf (xs_k hS rfl rfl : xm_k h5 160 = (0, 0))) (xs_r hS rfl) ?_
      refine xw_gr rfl (xkf (xs_k hS rfl rfl : xm_k h5 182 = (3, 0))) (xs_r hS rfl) ?_
      refine xw_gr rfl (xkf (xs_k hS rfl rfl : xm_k h5 201 = (8, 0))) (xs_r hS rfl) ?_
      refine xw_G (pc' := 24) (st' := [.int x1, .ref 206]) rfl rfl trivial ?_
      refine xg_e hf (fun hg7 hf => ?_)
      refine xa_ld (t := 100) (τ := 0) (v := .int (xm_i h5 206 (Int32.toNatClampNeg x1))) rfl rfl (xkf (xs_k hS rfl rfl : xm_k h5 206 = (100, 8))) (xkn (xs_k hS rfl rfl : xm_k h5 206 = (100, 8))) hg7 rfl ?_
      refine xw_G (pc' := 26) (st' := [.int x2, .int (xm_i h5 206 (Int32.toNatClampNeg x1))]) rfl rfl trivial ?_
      refine xj_ic_le rfl hf (fun hc8 hf => ?_) (fun hc8 hf => ?_)
      · exact xr_t (inj := xti) rfl (Nat.le_of_ble_eq_true rfl) rfl hf hQ (xS_new hS rfl)
      · refine xw_G (pc' := 41) (st' := [.ref 160]) rfl rfl trivial ?_
        refine xw_gr rfl (xkf (xs_k hS rfl rfl : xm_k h5 160 = (0, 0))) (xs_r hS rfl) ?_
        refine xw_G (pc' := 45) (st' := [.ref 160, .ref 234]) rfl rfl trivial ?_
        refine xw_gr rfl (xkf (xs_k hS rfl rfl : xm_k h5 160 = (0, 0))) (xs_r hS rfl) ?_
        refine xw_gr rfl (xkf (xs_k hS rfl rfl : xm_k h5 182 = (3, 0))) (xs_r hS rfl) ?_
        refine xb_e hf (fun v9 h10 e11 hf => ?_)
        refine xw_V (v := none) rfl rfl (xkf (xs_k hS rfl rfl : xm_k h5 234 = (4, 0))) (Nat.le_of_ble_eq_true rfl) (Nat.le_of_ble_eq_true rfl) (xm_Rn_le (Nat.le_of_ble_eq_true rfl) (t_X3_remember  hS e11).1) ?_
        have hS := (t_X3_remember  hS e11).2
        show xm_W _ _ _ 54 _ [] _
        refine xw_G (pc' := 55) (st' := [.ref 160]) rfl rfl trivial ?_
        refine xw_gr rfl (xkf (xs_k hS rfl rfl : xm_k h10 160 = (0, 0))) (xs_r hS rfl) ?_
        refine xw_gr rfl (xkf (xs_k hS rfl rfl : xm_k h10 182 = (3, 0))) (xs_r hS rfl) ?_
        refine xw_gr rfl (xkf (xs_k hS rfl rfl : xm_k h10 201 = (8, 0))) (xs_r hS rfl) ?_
        refine xw_G (pc' := 65) (st' := [.int x1, .ref 204]) rfl rfl trivial ?_
        refine xa_ld (t := 100) (τ := 0) (v := .int (xm_i h10 204 (Int32.toNatClampNeg x1))) rfl rfl (xkf (xs_k hS rfl rfl : xm_k h10 204 = (100, 8))) (xkn (xs_k hS rfl rfl : xm_k h10 204 = (100, 8))) hg7 rfl ?_
        refine xw_G (pc' := 67) (ls' := [some (.ref 160), some (.int x1), some (.int x2), some (.int (xm_i h10 204 (Int32.toNatClampNeg x1)))]) (st' := []) rfl rfl (Nat.le_of_ble_eq_true rfl) ?_
        refine xw_G (pc' := 68) (st' := [.ref 160]) rfl rfl trivial ?_
        refine xw_gr rfl (xkf (xs_k hS rfl rfl : xm_k h10 160 = (0, 0))) (xs_r hS rfl) ?_
        refine xw_gr rfl (xkf (xs_k hS rfl rfl : xm_k h10 182 = (3, 0))) (xs_r hS rfl) ?_
        refine xw_gr rfl (xkf (xs_k hS rfl rfl : xm_k h10 201 = (8, 0))) (xs_r hS rfl) ?_
        refine xw_G (pc' := 78) (st' := [.int x1, .ref 204]) rfl rfl trivial ?_
        refine xw_G (pc' := 79) (st' := [.int x2, .int x1, .ref 204]) rfl rfl trivial ?_
        refine xa_i rfl (xkf (xs_k hS rfl rfl : xm_k h10 204 = (100, 8))) (xkn (xs_k hS rfl rfl : xm_k h10 204 = (100, 8))) hg7 (Nat.le_of_ble_eq_true rfl) hf (fun h12 e13 hf => ?_)
        have hS := xS_si hS e13
        refine xw_G (pc' := 81) (st' := [.int (xm_i h10 204 (Int32.toNatClampNeg x1))]) rfl rfl trivial ?_
        exact xr_i (inj := xti) rfl rfl rfl rfl hf hQ hS
    · refine xw_SX (x := q14) rfl (Nat.le_of_ble_eq_true rfl) (Nat.le_of_ble_eq_true rfl) (xm_Rn_le (Nat.le_of_ble_eq_true rfl) (t_X10_requireRange  hS e6).1) rfl ?_
      have hS := (t_X10_requireRange  hS e6).2
      exact xr_x (inj := xti) rfl hf hQ hS
  · refine xw_VX (x := q17) rfl rfl (xkf (xs_k hS rfl rfl : xm_k h 160 = (0, 0))) (Nat.le_of_ble_eq_true rfl) (Nat.le_of_ble_eq_true rfl) (xm_Rn_le (Nat.le_of_ble_eq_true rfl) (t_X10_requireCampaign  hS e3).1) rfl ?_
    have hS := (t_X10_requireCampaign  hS e3).2
    exact xr_x (inj := xti) rfl hf hQ hS
def f_L_setBudget (ρ : Nat) (x1 : Int32) (x2 : Int32) (h : xm_H) : Option (Int32 × xm_H) := (xe (f_X10_setBudget ρ x1 x2 h) (fun v1 h2 => (xl (xm_sl h2 316 0 (Int32.toInt64 v1)) fun h4 => (some ((0 : Int32), h4)))) (fun q6 h7 => (if (q6).1 = 14 then (some ((1 : Int32), h7)) else (if (q6).1 = 15 then (some ((2 : Int32), h7)) else (if (q6).1 = 16 then (some ((3 : Int32), h7)) else none)))))
theorem t_L_setBudget {ρ : Nat} {δ : Nat} {x1 : Int32} {x2 : Int32} {h : xm_H} {w : Int32 × xm_H}  (hS : xS ρ δ h) (hf : f_L_setBudget ρ x1 x2 h = some w) : xm_Rn xX 4 351 [.ref 160, .int x1, .int x2, .ref 316] h (xji w.1) w.2 ∧ xS ρ δ w.2 := by
  refine xt_mk (φ := fun h => xS ρ δ h) (M := xM_L_setBudget) (ls := [some (.ref 160), some (.int x1), some (.int x2), some (.ref 316), none]) rfl (Nat.le_of_ble_eq_true rfl) rfl (fun Q hQ => ?_)
  unfold f_L_setBudget at hf
  refine xw_G (pc' := 1) (st' := [.ref 316]) rfl rfl trivial ?_
  refine xw_G (pc' := 2) (st' := [.int (0 : Int32), .ref 316]) rfl rfl trivial ?_
  refine xw_G (pc' := 3) (st' := [.ref 160, .int (0 : Int32), .ref 316]) rfl rfl trivial ?_
  refine xw_G (pc' := 4) (st' := [.int x1, .ref 160, .int (0 : Int32), .ref 316]) rfl rfl trivial ?_
  refine xw_G (pc' := 5) (st' := [.int x2, .int x1, .ref 160, .int (0 : Int32), .ref 316]) rfl rfl trivial ?_
  refine xe_e hf (fun v1 h2 e3 hf => ?_) (fun q6 h7 e3 hf => ?_)
  · refine xw_V (v := some (.int v1)) rfl rfl (xkf (xs_k hS rfl rfl : xm_k h 160 = (0, 0))) (Nat.le_of_ble_eq_true rfl) (Nat.le_of_ble_eq_true rfl) (xm_Rn_le (Nat.le_of_ble_eq_true rfl) (t_X10_setBudget  hS e3).1) ?_
    have hS := (t_X10_setBudget  hS e3).2
    show xm_W _ _ _ 8 _ [.int v1, .int (0 : Int32), .ref 316] _
    refine xw_G (pc' := 9) (st' := [.long (Int32.toInt64 v1), .int (0 : Int32), .ref 316]) rfl rfl trivial ?_
    refine xa_l rfl (xkf (xs_k hS rfl rfl : xm_k h2 316 = (104, 1))) (xkn (xs_k hS rfl rfl : xm_k h2 316 = (104, 1))) (by decide : xin (0 : Int32) 1) (Nat.le_of_ble_eq_true rfl) hf (fun h4 e5 hf => ?_)
    have hS := xS_sl hS e5
    refine xw_G (pc' := 25) (st' := []) rfl rfl trivial ?_
    refine xw_G (pc' := 26) (st' := [.int (0 : Int32)]) rfl rfl trivial ?_
    exact xr_i (inj := xji) rfl rfl rfl rfl hf hQ hS
  · by_cases hc8 : (q6).1 = 14
    · rw [if_pos hc8] at hf
      refine xw_VH (x := q6) (p := 13) rfl rfl (xkf (xs_k hS rfl rfl : xm_k h 160 = (0, 0))) (Nat.le_of_ble_eq_true rfl) (Nat.le_of_ble_eq_true rfl) (xm_Rn_le (Nat.le_of_ble_eq_true rfl) (t_X10_setBudget  hS e3).1) (by rw [hc8]; rfl) ?_
      have hS := (t_X10_setBudget  hS e3).2
      refine xw_G (pc' := 15) (ls' := [some (.ref 160), some (.int x1), some (.int x2), some (.ref 316), some (.ref ((q6).2))]) (st' := []) rfl rfl (Nat.le_of_ble_eq_true rfl) ?_
      refine xw_G (pc' := 16) (st' := [.int (1 : Int32)]) rfl rfl trivial ?_
      exact xr_i (inj := xji) rfl rfl rfl rfl hf hQ hS
    · rw [if_neg hc8] at hf
      by_cases hc8 : (q6).1 = 15
      · rw [if_pos hc8] at hf
        refine xw_VH (x := q6) (p := 17) rfl rfl (xkf (xs_k hS rfl rfl : xm_k h 160 = (0, 0))) (Nat.le_of_ble_eq_true rfl) (Nat.le_of_ble_eq_true rfl) (xm_Rn_le (Nat.le_of_ble_eq_true rfl) (t_X10_setBudget  hS e3).1) (by rw [hc8]; rfl) ?_
        have hS := (t_X10_setBudget  hS e3).2
        refine xw_G (pc' := 19) (ls' := [some (.ref 160), some (.int x1), some (.int x2), some (.ref 316), some (.ref ((q6).2))]) (st' := []) rfl rfl (Nat.le_of_ble_eq_true rfl) ?_
        refine xw_G (pc' := 20) (st' := [.int (2 : Int32)]) rfl rfl trivial ?_
        exact xr_i (inj := xji) rfl rfl rfl rfl hf hQ hS
      · rw [if_neg hc8] at hf
        by_cases hc8 : (q6).1 = 16
        · rw [if_pos hc8] at hf
          refine xw_VH (x := q6) (p := 21) rfl rfl (xkf (xs_k hS rfl rfl : xm_k h 160 = (0, 0))) (Nat.le_of_ble_eq_true rfl) (Nat.le_of_ble_eq_true rfl) (xm_Rn_le (Nat.le_of_ble_eq_true rfl) (t_X10_setBudget  hS e3).1) (by rw [hc8]; rfl) ?_
          have hS := (t_X10_setBudget  hS e3).2
          refine xw_G (pc' := 23) (ls' := [some (.ref 160), some (.int x1), some (.int x2), some (.ref 316), some (.ref ((q6).2))]) (st' := []) rfl rfl (Nat.le_of_ble_eq_true rfl) ?_
          refine xw_G (pc' := 24) (st' := [.int (3 : Int32)]) rfl rfl trivial ?_
          exact xr_i (inj := xji) rfl rfl rfl rfl hf hQ hS
        · rw [if_neg hc8] at hf
          exact (xn_e hf).elim
def f_X11_setBudget (N : Nat) (x1 : Int32) (x2 : Int32) (h : xm_H) : Option (Int32 × xm_H) := (xb (f_X11_isCampaign x1 h) fun v1 h2 => (xb (f_X11_between (Int32.toInt64 x2) (1 : Int64) (9999 : Int64) h2) fun v4 h5 => (if v1 = 0 then (xb (f_X11_good__ v1 v4 (0 : Int32) h5) fun v8 h9 => (if v8 = 0 then (some ((0 : Int32), h9)) else (xb (f_X11_remember N h9) fun v12 h13 => (xb (f_X11_of x1 (1 : Int32) h13) fun v15 h16 => (xb (f_X11_set x1 (1 : Int32) x2 h16) fun v18 h19 => (some (v15, h19))))))) else (xb (f_X11_of x1 (2 : Int32) h5) fun v21 h22 => (if x2 < v21 then (xb (f_X11_good__ v1 v4 (0 : Int32) h22) fun v25 h26 => (if v25 = 0 then (some ((0 : Int32), h26)) else (xb (f_X11_remember N h26) fun v29 h30 => (xb (f_X11_of x1 (1 : Int32) h30) fun v32 h33 => (xb (f_X11_set x1 (1 : Int32) x2 h33) fun v35 h36 => (some (v32, h36))))))) else (xb (f_X11_good__ v1 v4 (1 : Int32) h22) fun v38 h39 => (if v38 = 0 then (some ((0 : Int32), h39)) else (xb (f_X11_remember N h39) fun v42 h43 => (xb (f_X11_of x1 (1 : Int32) h43) fun v45 h46 => (xb (f_X11_set x1 (1 : Int32) x2 h46) fun v48 h49 => (some (v45, h49))))))))))))
theorem t_X11_setBudget {N : Nat} {ρ : Nat} {δ : Nat} {x1 : Int32} {x2 : Int32} {h : xm_H} {w : Int32 × xm_H}  (hS : xS ρ δ h) (hf : f_X11_setBudget N x1 x2 h = some w) : xm_Rn xX 3 226 [.ref 302, .int x1, .int x2] h (xji w.1) w.2 ∧ xS ρ δ w.2 := by
  refine xt_mk (φ := fun h => xS ρ δ h) (M := xM_X11_setBudget) (ls := [some (.ref 302), some (.int x1), some (.int x2), none, none]) rfl (Nat.le_of_ble_eq_true rfl) rfl (fun Q hQ => ?_)
  unfold f_X11_setBudget at hf
  refine xw_G (pc' := 1) (st' := [.ref 302]) rfl rfl trivial ?_
  refine xw_G (pc' := 2) (st' := [.int x1, .ref 302]) rfl rfl trivial ?_
  refine xb_e hf (fun v1 h2 e3 hf => ?_)
  refine xw_V (v := some (.int v1)) rfl rfl (xkf (xs_k hS rfl rfl : xm_k h 302 = (11, 0))) (Nat.le_of_ble_eq_true rfl) (Nat.le_of_ble_eq_true rfl) (xm_Rn_le (Nat.le_of_ble_eq_true rfl) (t_X11_isCampaign  hS e3).1) ?_
  have hS := (t_X11_isCampaign  hS e3).2
  show xm_W _ _ _ 5 _ [.int v1] _
  refine xw_G (pc' := 6) (ls' := [some (.ref 302), some (.int x1), some (.int x2), some (.int v1), none]) (st' := []) rfl rfl (Nat.le_of_ble_eq_true rfl) ?_
  refine xw_G (pc' := 7) (st' := [.ref 302]) rfl rfl trivial ?_
  refine xw_G (pc' := 8) (st' := [.int v1, .ref 302]) rfl rfl trivial ?_
  refine xw_G (pc' := 9) (st' := [.int x2, .int v1, .ref 302]) rfl rfl trivial ?_
  refine xw_G (pc' := 10) (st' := [.long (Int32.toInt64 x2), .int v1, .ref 302]) rfl rfl trivial ?_
  refine xw_G (pc' := 11) (st' := [.long (1 : Int64), .long (Int32.toInt64 x2), .int v1, .ref 302]) rfl rfl trivial ?_
  refine xw_G (pc' := 14) (st' := [.long (9999 : Int64), .long (1 : Int64), .long (Int32.toInt64 x2), .int v1, .ref 302]) rfl rfl trivial ?_
  refine xb_e hf (fun v4 h5 e6 hf => ?_)
  refine xw_S (v := some (.int v4)) rfl (Nat.le_of_ble_eq_true rfl) (Nat.le_of_ble_eq_true rfl) (xm_Rn_le (Nat.le_of_ble_eq_true rfl) (t_X11_between  hS e6).1) ?_
  have hS := (t_X11_between  hS e6).2
  show xm_W _ _ _ 17 _ [.int v4, .int v1, .ref 302] _
  refine xw_G (pc' := 18) (st' := [.int v1, .int v4, .int v1, .ref 302]) rfl rfl trivial ?_
  refine xj_if_eq rfl hf (fun hc7 hf => ?_) (fun hc7 hf => ?_)
  · refine xw_G (pc' := 36) (st' := [.int (0 : Int32), .int v4, .int v1, .ref 302]) rfl rfl trivial ?_
    refine xb_e hf (fun v8 h9 e10 hf => ?_)
    refine xw_V (v := some (.int v8)) rfl rfl (xkf (xs_k hS rfl rfl : xm_k h5 302 = (11, 0))) (Nat.le_of_ble_eq_true rfl) (Nat.le_of_ble_eq_true rfl) (xm_Rn_le (Nat.le_of_ble_eq_true rfl) (t_X11_good__  hS e10).1) ?_
    have hS := (t_X11_good__  hS e10).2
    show xm_W _ _ _ 39 _ [.int v8] _
    refine xj_if_ne rfl hf (fun hc11 hf => ?_) (fun hc11 hf => ?_)
    · refine xw_G (pc' := 43) (st' := [.int (0 : Int32)]) rfl rfl trivial ?_
      exact xr_i (inj := xji) rfl rfl rfl rfl hf hQ hS
    · refine xw_G (pc' := 45) (st' := [.ref 302]) rfl rfl trivial ?_
      refine xb_e hf (fun v12 h13 e14 hf => ?_)
      refine xw_V (v := none) rfl rfl (xkf (xs_k hS rfl rfl : xm_k h9 302 = (11, 0))) (Nat.le_of_ble_eq_true rfl) (Nat.le_of_ble_eq_true rfl) (xm_Rn_le (Nat.le_of_ble_eq_true rfl) (t_X11_remember  hS e14).1) ?_
      have hS := (t_X11_remember  hS e14).2
      show xm_W _ _ _ 48 _ [] _
      refine xw_G (pc' := 49) (st' := [.ref 302]) rfl rfl trivial ?_
      refine xw_G (pc' := 50) (st' := [.int x1, .ref 302]) rfl rfl trivial ?_
      refine xw_G (pc' := 51) (st' := [.int (1 : Int32), .int x1, .ref 302]) rfl rfl trivial ?_
      refine xb_e hf (fun v15 h16 e17 hf => ?_)
      refine xw_V (v := some (.int v15)) rfl rfl (xkf (xs_k hS rfl rfl : xm_k h13 302 = (11, 0))) (Nat.le_of_ble_eq_true rfl) (Nat.le_of_ble_eq_true rfl) (xm_Rn_le (Nat.le_of_ble_eq_true rfl) (t_X11_of  hS e17).1) ?_
      have hS := (t_X11_of  hS e17).2
      show xm_W _ _ _ 54 _ [.int v15] _
      refine xw_G (pc' := 56) (ls' := [some (.ref 302), some (.int x1), some (.int x2), some (.int v1), some (.int v15)]) (st' := []) rfl rfl (Nat.le_of_ble_eq_true rfl) ?_
      refine xw_G (pc' := 57) (st' := [.ref 302]) rfl rfl trivial ?_
      refine xw_G (pc' := 58) (st' := [.int x1, .ref 302]) rfl rfl trivial ?_
      refine xw_G (pc' := 59) (st' := [.int (1 : Int32), .int x1, .ref 302]) rfl rfl trivial ?_
      refine xw_G (pc' := 60) (st' := [.int x2, .int (1 : Int32), .int x1, .ref 302]) rfl rfl trivial ?_
      refine xb_e hf (fun v18 h19 e20 hf => ?_)
      refine xw_V (v := none) rfl rfl (xkf (xs_k hS rfl rfl : xm_k h16 302 = (11, 0))) (Nat.le_of_ble_eq_true rfl) (Nat.le_of_ble_eq_true rfl) (xm_Rn_le (Nat.le_of_ble_eq_true rfl) (t_X11_set  hS e20).1) ?_
      have hS := (t_X11_set  hS e20).2
      show xm_W _ _ _ 63 _ [] _
      refine xw_G (pc' := 65) (st' := [.int v15]) rfl rfl trivial ?_
      exact xr_i (inj := xji) rfl rfl rfl rfl hf hQ hS
  · refine xw_G (pc' := 22) (st' := [.ref 302, .int v4, .int v1, .ref 302]) rfl rfl trivial ?_
    refine xw_G (pc' := 23) (st' := [.int x1, .ref 302, .int v4, .int v1, .ref 302]) rfl rfl trivial ?_
    refine xw_G (pc' := 24) (st' := [.int (2 : Int32), .int x1, .ref 302, .int v4, .int v1, .ref 302]) rfl rfl trivial ?_
    refine xb_e hf (fun v21 h22 e23 hf => ?_)
    refine xw_V (v := some (.int v21)) rfl rfl (xkf (xs_k hS rfl rfl : xm_k h5 302 = (11, 0))) (Nat.le_of_ble_eq_true rfl) (Nat.le_of_ble_eq_true rfl) (xm_Rn_le (Nat.le_of_ble_eq_true rfl) (t_X11_of  hS e23).1) ?_
    have hS := (t_X11_of  hS e23).2
    show xm_W _ _ _ 27 _ [.int v21, .int v4, .int v1, .ref 302] _
    refine xw_G (pc' := 28) (st' := [.int x2, .int v21, .int v4, .int v1, .ref 302]) rfl rfl trivial ?_
    refine xj_ic_gt rfl hf (fun hc24 hf => ?_) (fun hc24 hf => ?_)
    · refine xw_G (pc' := 36) (st' := [.int (0 : Int32), .int v4, .int v1, .ref 302]) rfl rfl trivial ?_
      refine xb_e hf (fun v25 h26 e27 hf => ?_)
      refine xw_V (v := some (.int v25)) rfl rfl (xkf (xs_k hS rfl rfl : xm_k h22 302 = (11, 0))) (Nat.le_of_ble_eq_true rfl) (Nat.le_of_ble_eq_true rfl) (xm_Rn_le (Nat.le_of_ble_eq_true rfl) (t_X11_good__  hS e27).1) ?_
      have hS := (t_X11_good__  hS e27).2
      show xm_W _ _ _ 39 _ [.int v25] _
      refine xj_if_ne rfl hf (fun hc28 hf => ?_) (fun hc28 hf => ?_)
      · refine xw_G (pc' := 43) (st' := [.int (0 : Int32)]) rfl rfl trivial ?_
        exact xr_i (inj := xji) rfl rfl rfl rfl hf hQ hS
      · refine xw_G (pc' := 45) (st' := [.ref 302]) rfl rfl trivial ?_
        refine xb_e hf (fun v29 h30 e31 hf => ?_)
        refine xw_V (v := none) rfl rfl (xkf (xs_k hS rfl rfl : xm_k h26 302 = (11, 0))) (Nat.le_of_ble_eq_true rfl) (Nat.le_of_ble_eq_true rfl) (xm_Rn_le (Nat.le_of_ble_eq_true rfl) (t_X11_remember  hS e31).1) ?_
        have hS := (t_X11_remember  hS e31).2
        show xm_W _ _ _ 48 _ [] _
        refine xw_G (pc' := 49) (st' := [.ref 302]) rfl rfl trivial ?_
        refine xw_G (pc' := 50) (st' := [.int x1, .ref 302]) rfl rfl trivial ?_
        refine xw_G (pc' := 51) (st' := [.int (1 : Int32), .int x1, .ref 302]) rfl rfl trivial ?_
        refine xb_e hf (fun v32 h33 e34 hf => ?_)
        refine xw_V (v := some (.int v32)) rfl rfl (xkf (xs_k hS rfl rfl : xm_k h30 302 = (11, 0))) (Nat.le_of_ble_eq_true rfl) (Nat.le_of_ble_eq_true rfl) (xm_Rn_le (Nat.le_of_ble_eq_true rfl) (t_X11_of  hS e34).1) ?_
        have hS := (t_X11_of  hS e34).2
        show xm_W _ _ _ 54 _ [.int v32] _
        refine xw_G (pc' := 56) (ls' := [some (.ref 302), some (.int x1), some (.int x2), some (.int v1), some (.int v32)]) (st' := []) rfl rfl (Nat.le_of_ble_eq_true rfl) ?_
        refine xw_G (pc' := 57) (st' := [.ref 302]) rfl rfl trivial ?_
        refine xw_G (pc' := 58) (st' := [.int x1, .ref 302]) rfl rfl trivial ?_
        refine xw_G (pc' := 59) (st' := [.int (1 : Int32), .int x1, .ref 302]) rfl rfl trivial ?_
        refine xw_G (pc' := 60) (st' := [.int x2, .int (1 : Int32), .int x1, .ref 302]) rfl rfl trivial ?_
        refine xb_e hf (fun v35 h36 e37 hf => ?_)
        refine xw_V (v := none) rfl rfl (xkf (xs_k hS rfl rfl : xm_k h33 302 = (11, 0))) (Nat.le_of_ble_eq_true rfl) (Nat.le_of_ble_eq_true rfl) (xm_Rn_le (Nat.le_of_ble_eq_true rfl) (t_X11_set  hS e37).1) ?_
        have hS := (t_X11_set  hS e37).2
        show xm_W _ _ _ 63 _ [] _
        refine xw_G (pc' := 65) (st' := [.int v32]) rfl rfl trivial ?_
        exact xr_i (inj := xji) rfl rfl rfl rfl hf hQ hS
    · refine xw_G (pc' := 32) (st' := [.int (1 : Int32), .int v4, .int v1, .ref 302]) rfl rfl trivial ?_
      refine xw_G (pc' := 36) (st' := [.int (1 : Int32), .int v4, .int v1, .ref 302]) rfl rfl trivial ?_
      refine xb_e hf (fun v38 h39 e40 hf => ?_)
      refine xw_V (v := some (.int v38)) rfl rfl (xkf (xs_k hS rfl rfl : xm_k h22 302 = (11, 0))) (Nat.le_of_ble_eq_true rfl) (Nat.le_of_ble_eq_true rfl) (xm_Rn_le (Nat.le_of_ble_eq_true rfl) (t_X11_good__  hS e40).1) ?_
      have hS := (t_X11_good__  hS e40).2
      show xm_W _ _ _ 39 _ [.int v38] _
      refine xj_if_ne rfl hf (fun hc41 hf => ?_) (fun hc41 hf => ?_)
      · refine xw_G (pc' := 43) (st' := [.int (0 : Int32)]) rfl rfl trivial ?_
        exact xr_i (inj := xji) rfl rfl rfl rfl hf hQ hS
      · refine xw_G (pc' := 45) (st' := [.ref 302]) rfl rfl trivial ?_
        refine xb_e hf (fun v42 h43 e44 hf => ?_)
        refine xw_V (v := none) rfl rfl (xkf (xs_k hS rfl rfl : xm_k h39 302 = (11, 0))) (Nat.le_of_ble_eq_true rfl) (Nat.le_of_ble_eq_true rfl) (xm_Rn_le (Nat.le_of_ble_eq_true rfl) (t_X11_remember  hS e44).1) ?_
        have hS := (t_X11_remember  hS e44).2
        show xm_W _ _ _ 48 _ [] _
        refine xw_G (pc' := 49) (st' := [.ref 302]) rfl rfl trivial ?_
        refine xw_G (pc' := 50) (st' := [.int x1, .ref 302]) rfl rfl trivial ?_
        refine xw_G (pc' := 51) (st' := [.int (1 : Int32), .int x1, .ref 302]) rfl rfl trivial ?_
        refine xb_e hf (fun v45 h46 e47 hf => ?_)
        refine xw_V (v := some (.int v45)) rfl rfl (xkf (xs_k hS rfl rfl : xm_k h43 302 = (11, 0))) (Nat.le_of_ble_eq_true rfl) (Nat.le_of_ble_eq_true rfl) (xm_Rn_le (Nat.le_of_ble_eq_true rfl) (t_X11_of  hS e47).1) ?_
        have hS := (t_X11_of  hS e47).2
        show xm_W _ _ _ 54 _ [.int v45] _
        refine xw_G (pc' := 56) (ls' := [some (.ref 302), some (.int x1), some (.int x2), some (.int v1), some (.int v45)]) (st' := []) rfl rfl (Nat.le_of_ble_eq_true rfl) ?_
        refine xw_G (pc' := 57) (st' := [.ref 302]) rfl rfl trivial ?_
        refine xw_G (pc' := 58) (st' := [.int x1, .ref 302]) rfl rfl trivial ?_
        refine xw_G (pc' := 59) (st' := [.int (1 : Int32), .int x1, .ref 302]) rfl rfl trivial ?_
        refine xw_G (pc' := 60) (st' := [.int x2, .int (1 : Int32), .int x1, .ref 302]) rfl rfl trivial ?_
        refine xb_e hf (fun v48 h49 e50 hf => ?_)
        refine xw_V (v := none) rfl rfl (xkf (xs_k hS rfl rfl : xm_k h46 302 = (11, 0))) (Nat.le_of_ble_eq_true rfl) (Nat.le_of_ble_eq_true rfl) (xm_Rn_le (Nat.le_of_ble_eq_true rfl) (t_X11_set  hS e50).1) ?_
        have hS := (t_X11_set  hS e50).2
        show xm_W _ _ _ 63 _ [] _
        refine xw_G (pc' := 65) (st' := [.int v45]) rfl rfl trivial ?_
        exact xr_i (inj := xji) rfl rfl rfl rfl hf hQ hS
def f_X10_setMode (ρ : Nat) (x1 : Int32) (x2 : Int32) (h : xm_H) : Option ((Int32 ⊕ Nat × Nat) × xm_H) := (xe (f_X10_requireCampaign ρ x1 h) (fun v1 h2 => (xe (f_X10_requireRange x2 (0 : Int32) (2 : Int32) h2) (fun v4 h5 => (xb (f_X3_remember h5) fun v7 h8 => (if xin x1 8 then (xb (f_X7_changeMode x1 x2 h8) fun v11 h12 => (some (.inl (xm_i h8 205 (Int32.toNatClampNeg x1)), h12))) else none))) (fun q14 h15 => (some (.inr q14, h15))))) (fun q17 h18 => (some (.inr q17, h18))))
theorem t_X10_setMode {ρ : Nat} {δ : Nat} {x1 : Int32} {x2 : Int32} {h : xm_H} {w : (Int32 ⊕ Nat × Nat) × xm_H}  (hS : xS ρ δ h) (hf : f_X10_setMode ρ x1 x2 h = some w) : xm_Rn xX 3 107 [.ref 160, .int x1, .int x2] h (xti w.1) w.2 ∧ xS ρ δ w.2 := by
  refine xt_mk (φ := fun h => xS ρ δ h) (M := xM_X10_setMode) (ls := [some (.ref 160), some (.int x1), some (.int x2), none]) rfl (Nat.le_of_ble_eq_true rfl) rfl (fun Q hQ => ?_)
  unfold f_X10_setMode at hf
  refine xw_G (pc' := 1) (st' := [.ref 160]) rfl rfl trivial ?_
  refine xw_G (pc' := 2) (st' := [.int x1, .ref 160]) rfl rfl trivial ?_
  refine xe_e hf (fun v1 h2 e3 hf => ?_) (fun q17 h18 e3 hf => ?_)
  · refine xw_V (v := none) rfl rfl (xkf (xs_k hS rfl rfl : xm_k h 160 = (0, 0))) (Nat.le_of_ble_eq_true rfl) (Nat.le_of_ble_eq_true rfl) (xm_Rn_le (Nat.le_of_ble_eq_true rfl) (t_X10_requireCampaign  hS e3).1) ?_
    have hS := (t_X10_requireCampaign  hS e3).2
    show xm_W _ _ _ 5 _ [] _
    refine xw_G (pc' := 6) (st' := [.int x2]) rfl rfl trivial ?_
    refine xw_G (pc' := 7) (st' := [.int (0 : Int32), .int x2]) rfl rfl trivial ?_
    refine xw_G (pc' := 8) (st' := [.int (2 : Int32), .int (0 : Int32), .int x2]) rfl rfl trivial ?_
    refine xe_e hf (fun v4 h5 e6 hf => ?_) (fun q14 h15 e6 hf => ?_)
    · refine xw_S (v := none) rfl (Nat.le_of_ble_eq_true rfl) (Nat.le_of_ble_eq_true rfl) (xm_Rn_le (Nat.le_of_ble_eq_true rfl) (t_X10_requireRange  hS e6).1) ?_
      have hS := (t_X10_requireRange  hS e6).2
      show xm_W _ _ _ 11 _ [] _
      refine xw_G (pc' := 12) (st' := [.ref 160]) rfl rfl trivial ?_
      refine xw_gr rfl (xkf (xs_k hS rfl rfl : xm_k h5 160 = (0, 0))) (xs_r hS rfl) ?_
      refine xw_G (pc' := 16) (st' := [.ref 160, .ref 234]) rfl rfl trivial ?_
      refine xw_gr rfl (xkf (xs_k hS rfl rfl : xm_k h5 160 = (0, 0))) (xs_r hS rfl) ?_
      refine xw_gr rfl (xkf (xs_k hS rfl rfl : xm_k h5 182 = (3, 0))) (xs_r hS rfl) ?_
      refine xb_e hf (fun v7 h8 e9 hf => ?_)
      refine xw_V (v := none) rfl rfl (xkf (xs_k hS rfl rfl : xm_k h5 234 = (4, 0))) (Nat.le_of_ble_eq_true rfl) (Nat.le_of_ble_eq_true rfl) (xm_Rn_le (Nat.le_of_ble_eq_true rfl) (t_X3_remember  hS e9).1) ?_
      have hS := (t_X3_remember  hS e9).2
      show xm_W _ _ _ 25 _ [] _
      refine xw_G (pc' := 26) (st' := [.ref 160]) rfl rfl trivial ?_
      refine xw_gr rfl (xkf (xs_k hS rfl rfl : xm_k h8 160 = (0, 0))) (xs_r hS rfl) ?_
      refine xw_gr rfl (xkf (xs_k hS rfl rfl : xm_k h8 182 = (3, 0))) (xs_r hS rfl) ?_
      refine xw_gr rfl (xkf (xs_k hS rfl rfl : xm_k h8 201 = (8, 0))) (xs_r hS rfl) ?_
      refine xw_G (pc' := 36) (st' := [.int x1, .ref 205]) rfl rfl trivial ?_
      refine xg_e hf (fun hg10 hf => ?_)
      refine xa_ld (t := 100) (τ := 0) (v := .int (xm_i h8 205 (Int32.toNatClampNeg x1))) rfl rfl (xkf (xs_k hS rfl rfl : xm_k h8 205 = (100, 8))) (xkn (xs_k hS rfl rfl : xm_k h8 205 = (100, 8))) hg10 rfl ?_
      refine xw_G (pc' := 38) (ls' := [some (.ref 160), some (.int x1), some (.int x2), some (.int (xm_i h8 205 (Int32.toNatClampNeg x1)))]) (st' := []) rfl rfl (Nat.le_of_ble_eq_true rfl) ?_
      refine xw_G (pc' := 39) (st' := [.ref 160]) rfl rfl trivial ?_
      refine xw_gr rfl (xkf (xs_k hS rfl rfl : xm_k h8 160 = (0, 0))) (xs_r hS rfl) ?_
      refine xw_gr rfl (xkf (xs_k hS rfl rfl : xm_k h8 182 = (3, 0))) (xs_r hS rfl) ?_
      refine xw_G (pc' := 46) (st' := [.int x1, .ref 201]) rfl rfl trivial ?_
      refine xw_G (pc' := 47) (st' := [.int x2, .int x1, .ref 201]) rfl rfl trivial ?_
      refine xb_e hf (fun v11 h12 e13 hf => ?_)
      refine xw_V (v := none) rfl rfl (xkf (xs_k hS rfl rfl : xm_k h8 201 = (8, 0))) (Nat.le_of_ble_eq_true rfl) (Nat.le_of_ble_eq_true rfl) (xm_Rn_le (Nat.le_of_ble_eq_true rfl) (t_X7_changeMode  hS e13).1) ?_
      have hS := (t_X7_changeMode  hS e13).2
      show xm_W _ _ _ 50 _ [] _
      refine xw_G (pc' := 51) (st' := [.int (xm_i h8 205 (Int32.toNatClampNeg x1))]) rfl rfl trivial ?_
      exact xr_i (inj := xti) rfl rfl rfl rfl hf hQ hS
    · refine xw_SX (x := q14) rfl (Nat.le_of_ble_eq_true rfl) (Nat.le_of_ble_eq_true rfl) (xm_Rn_le (Nat.le_of_ble_eq_true rfl) (t_X10_requireRange  hS e6).1) rfl ?_
      have hS := (t_X10_requireRange  hS e6).2
      exact xr_x (inj := xti) rfl hf hQ hS
  · refine xw_VX (x := q17) rfl rfl (xkf (xs_k hS rfl rfl : xm_k h 160 = (0, 0))) (Nat.le_of_ble_eq_true rfl) (Nat.le_of_ble_eq_true rfl) (xm_Rn_le (Nat.le_of_ble_eq_true rfl) (t_X10_requireCampaign  hS e3).1) rfl ?_
    have hS := (t_X10_requireCampaign  hS e3).2
    exact xr_x (inj := xti) rfl hf hQ hS
def f_L_setMode (ρ : Nat) (x1 : Int32) (x2 : Int32) (h : xm_H) : Option (Int32 × xm_H) := (xe (f_X10_setMode ρ x1 x2 h) (fun v1 h2 => (xl (xm_sl h2 316 0 (Int32.toInt64 v1)) fun h4 => (some ((0 : Int32), h4)))) (fun q6 h7 => (if (q6).1 = 14 then (some ((1 : Int32), h7)) else (if (q6).1 = 15 then (some ((2 : Int32), h7)) else none))))
theorem t_L_setMode {ρ : Nat} {δ : Nat} {x1 : Int32} {x2 : Int32} {h : xm_H} {w : Int32 × xm_H}  (hS : xS ρ δ h) (hf : f_L_setMode ρ x1 x2 h = some w) : xm_Rn xX 4 352 [.ref 160, .int x1, .int x2, .ref 316] h (xji w.1) w.2 ∧ xS ρ δ w.2 := by
  refine xt_mk (φ := fun h => xS ρ δ h) (M := xM_L_setMode) (ls := [some (.ref 160), some (.int x1), some (.int x2), some (.ref 316), none]) rfl (Nat.le_of_ble_eq_true rfl) rfl (fun Q hQ => ?_)
  unfold f_L_setMode at hf
  refine xw_G (pc' := 1) (st' := [.ref 316]) rfl rfl trivial ?_
  refine xw_G (pc' := 2) (st' := [.int (0 : Int32), .ref 316]) rfl rfl trivial ?_
  refine xw_G (pc' := 3) (st' := [.ref 160, .int (0 : Int32), .ref 316]) rfl rfl trivial ?_
  refine xw_G (pc' := 4) (st' := [.int x1, .ref 160, .int (0 : Int32), .ref 316]) rfl rfl trivial ?_
  refine xw_G (pc' := 5) (st' := [.int x2, .int x1, .ref 160, .int (0 : Int32), .ref 316]) rfl rfl trivial ?_
  refine xe_e hf (fun v1 h2 e3 hf => ?_) (fun q6 h7 e3 hf => ?_)
  · refine xw_V (v := some (.int v1)) rfl rfl (xkf (xs_k hS rfl rfl : xm_k h 160 = (0, 0))) (Nat.le_of_ble_eq_true rfl) (Nat.le_of_ble_eq_true rfl) (xm_Rn_le (Nat.le_of_ble_eq_true rfl) (t_X10_setMode  hS e3).1) ?_
    have hS := (t_X10_setMode  hS e3).2
    show xm_W _ _ _ 8 _ [.int v1, .int (0 : Int32), .ref 316] _
    refine xw_G (pc' := 9) (st' := [.long (Int32.toInt64 v1), .int (0 : Int32), .ref 316]) rfl rfl trivial ?_
    refine xa_l rfl (xkf (xs_k hS rfl rfl : xm_k h2 316 = (104, 1))) (xkn (xs_k hS rfl rfl : xm_k h2 316 = (104, 1))) (by decide : xin (0 : Int32) 1) (Nat.le_of_ble_eq_true rfl) hf (fun h4 e5 hf => ?_)
    have hS := xS_sl hS e5
    refine xw_G (pc' := 21) (st' := []) rfl rfl trivial ?_
    refine xw_G (pc' := 22) (st' := [.int (0 : Int32)]) rfl rfl trivial ?_
    exact xr_i (inj := xji) rfl rfl rfl rfl hf hQ hS
  · by_cases hc8 : (q6).1 = 14
    · rw [if_pos hc8] at hf
      refine xw_VH (x := q6) (p := 13) rfl rfl (xkf (xs_k hS rfl rfl : xm_k h 160 = (0, 0))) (Nat.le_of_ble_eq_true rfl) (Nat.le_of_ble_eq_true rfl) (xm_Rn_le (Nat.le_of_ble_eq_true rfl) (t_X10_setMode  hS e3).1) (by rw [hc8]; rfl) ?_
      have hS := (t_X10_setMode  hS e3).2
      refine xw_G (pc' := 15) (ls' := [some (.ref 160), some (.int x1), some (.int x2), some (.ref 316), some (.ref ((q6).2))]) (st' := []) rfl rfl (Nat.le_of_ble_eq_true rfl) ?_
      refine xw_G (pc' := 16) (st' := [.int (1 : Int32)]) rfl rfl trivial ?_
      exact xr_i (inj := xji) rfl rfl rfl rfl hf hQ hS
    · rw [if_neg hc8] at hf
      by_cases hc8 : (q6).1 = 15
      · rw [if_pos hc8] at hf
        refine xw_VH (x := q6) (p := 17) rfl rfl (xkf (xs_k hS rfl rfl : xm_k h 160 = (0, 0))) (Nat.le_of_ble_eq_true rfl) (Nat.le_of_ble_eq_true rfl) (xm_Rn_le (Nat.le_of_ble_eq_true rfl) (t_X10_setMode  hS e3).1) (by rw [hc8]; rfl) ?_
        have hS := (t_X10_setMode  hS e3).2
        refine xw_G (pc' := 19) (ls' := [some (.ref 160), some (.int x1), some (.int x2), some (.ref 316), some (.ref ((q6).2))]) (st' := []) rfl rfl (Nat.le_of_ble_eq_true rfl) ?_
        refine xw_G (pc' := 20) (st' := [.int (2 : Int32)]) rfl rfl trivial ?_
        exact xr_i (inj := xji) rfl rfl rfl rfl hf hQ hS
      · rw [if_neg hc8] at hf
        exact (xn_e hf).elim
def f_X11_setMode (N : Nat) (x1 : Int32) (x2 : Int32) (h : xm_H) : Option (Int32 × xm_H) := (xb (f_X11_isCampaign x1 h) fun v1 h2 => (xb (f_X11_between (Int32.toInt64 x2) (0 : Int64) (2 : Int64) h2) fun v4 h5 => (xb (f_X11_good_ v1 v4 h5) fun v7 h8 => (if v7 = 0 then (some ((0 : Int32), h8)) else (xb (f_X11_remember N h8) fun v11 h12 => (xb (f_X11_of x1 (4 : Int32) h12) fun v14 h15 => (xb (f_X11_set x1 (4 : Int32) x2 h15) fun v17 h18 => (xb (f_X11_set x1 (3 : Int32) (100 : Int32) h18) fun v20 h21 => (some (v14, h21))))))))))
theorem t_X11_setMode {N : Nat} {ρ : Nat} {δ : Nat} {x1 : Int32} {x2 : Int32} {h : xm_H} {w : Int32 × xm_H}  (hS : xS ρ δ h) (hf : f_X11_setMode N x1 x2 h = some w) : xm_Rn xX 3 227 [.ref 302, .int x1, .int x2] h (xji w.1) w.2 ∧ xS ρ δ w.2 := by
  refine xt_mk (φ := fun h => xS ρ δ h) (M := xM_X11_setMode) (ls := [some (.ref 302), some (.int x1), some (.int x2), none]) rfl (Nat.le_of_ble_eq_true rfl) rfl (fun Q hQ => ?_)
  unfold f_X11_setMode at hf
  refine xw_G (pc' := 1) (st' := [.ref 302]) rfl rfl trivial ?_
  refine xw_G (pc' := 2) (st' := [.ref 302, .ref 302]) rfl rfl trivial ?_
  refine xw_G (pc' := 3) (st' := [.int x1, .ref 302, .ref 302]) rfl rfl trivial ?_
  refine xb_e hf (fun v1 h2 e3 hf => ?_)
  refine xw_V (v := some (.int v1)) rfl rfl (xkf (xs_k hS rfl rfl : xm_k h 302 = (11, 0))) (Nat.le_of_ble_eq_true rfl) (Nat.le_of_ble_eq_true rfl) (xm_Rn_le (Nat.le_of_ble_eq_true rfl) (t_X11_isCampaign  hS e3).1) ?_
  have hS := (t_X11_isCampaign  hS e3).2
  show xm_W _ _ _ 6 _ [.int v1, .ref 302] _
  refine xw_G (pc' := 7) (st' := [.int x2, .int v1, .ref 302]) rfl rfl trivial ?_
  refine xw_G (pc' := 8) (st' := [.long (Int32.toInt64 x2), .int v1, .ref 302]) rfl rfl trivial ?_
  refine xw_G (pc' := 9) (st' := [.long (0 : Int64), .long (Int32.toInt64 x2), .int v1, .ref 302]) rfl rfl trivial ?_
  refine xw_G (pc' := 12) (st' := [.long (2 : Int64), .long (0 : Int64), .long (Int32.toInt64 x2), .int v1, .ref 302]) rfl rfl trivial ?_
  refine xb_e hf (fun v4 h5 e6 hf => ?_)
  refine xw_S (v := some (.int v4)) rfl (Nat.le_of_ble_eq_true rfl) (Nat.le_of_ble_eq_true rfl) (xm_Rn_le (Nat.le_of_ble_eq_true rfl) (t_X11_between  hS e6).1) ?_
  have hS := (t_X11_between  hS e6).2
  show xm_W _ _ _ 15 _ [.int v4, .int v1, .ref 302] _
  refine xb_e hf (fun v7 h8 e9 hf => ?_)
  refine xw_V (v := some (.int v7)) rfl rfl (xkf (xs_k hS rfl rfl : xm_k h5 302 = (11, 0))) (Nat.le_of_ble_eq_true rfl) (Nat.le_of_ble_eq_true rfl) (xm_Rn_le (Nat.le_of_ble_eq_true rfl) (t_X11_good_  hS e9).1) ?_
  have hS := (t_X11_good_  hS e9).2
  show xm_W _ _ _ 18 _ [.int v7] _
  refine xj_if_ne rfl hf (fun hc10 hf => ?_) (fun hc10 hf => ?_)
  · refine xw_G (pc' := 22) (st' := [.int (0 : Int32)]) rfl rfl trivial ?_
    exact xr_i (inj := xji) rfl rfl rfl rfl hf hQ hS
  · refine xw_G (pc' := 24) (st' := [.ref 302]) rfl rfl trivial ?_
    refine xb_e hf (fun v11 h12 e13 hf => ?_)
    refine xw_V (v := none) rfl rfl (xkf (xs_k hS rfl rfl : xm_k h8 302 = (11, 0))) (Nat.le_of_ble_eq_true rfl) (Nat.le_of_ble_eq_true rfl) (xm_Rn_le (Nat.le_of_ble_eq_true rfl) (t_X11_remember  hS e13).1) ?_
    have hS := (t_X11_remember  hS e13).2
    show xm_W _ _ _ 27 _ [] _
    refine xw_G (pc' := 28) (st' := [.ref 302]) rfl rfl trivial ?_
    refine xw_G (pc' := 29) (st' := [.int x1, .ref 302]) rfl rfl trivial ?_
    refine xw_G (pc' := 30) (st' := [.int (4 : Int32), .int x1, .ref 302]) rfl rfl trivial ?_
    refine xb_e hf (fun v14 h15 e16 hf => ?_)
    refine xw_V (v := some (.int v14)) rfl rfl (xkf (xs_k hS rfl rfl : xm_k h12 302 = (11, 0))) (Nat.le_of_ble_eq_true rfl) (Nat.le_of_ble_eq_true rfl) (xm_Rn_le (Nat.le_of_ble_eq_true rfl) (t_X11_of  hS e16).1) ?_
    have hS := (t_X11_of  hS e16).2
    show xm_W _ _ _ 33 _ [.int v14] _
    refine xw_G (pc' := 34) (ls' := [some (.ref 302), some (.int x1), some (.int x2), some (.int v14)]) (st' := []) rfl rfl (Nat.le_of_ble_eq_true rfl) ?_
    refine xw_G (pc' := 35) (st' := [.ref 302]) rfl rfl trivial ?_
    refine xw_G (pc' := 36) (st' := [.int x1, .ref 302]) rfl rfl trivial ?_
    refine xw_G (pc' := 37) (st' := [.int (4 : Int32), .int x1, .ref 302]) rfl rfl trivial ?_
    refine xw_G (pc' := 38) (st' := [.int x2, .int (4 : Int32), .int x1, .ref 302]) rfl rfl trivial ?_
    refine xb_e hf (fun v17 h18 e19 hf => ?_)
    refine xw_V (v := none) rfl rfl (xkf (xs_k hS rfl rfl : xm_k h15 302 = (11, 0))) (Nat.le_of_ble_eq_true rfl) (Nat.le_of_ble_eq_true rfl) (xm_Rn_le (Nat.le_of_ble_eq_true rfl) (t_X11_set  hS e19).1) ?_
    have hS := (t_X11_set  hS e19).2
    show xm_W _ _ _ 41 _ [] _
    refine xw_G (pc' := 42) (st' := [.ref 302]) rfl rfl trivial ?_
    refine xw_G (pc' := 43) (st' := [.int x1, .ref 302]) rfl rfl trivial ?_
    refine xw_G (pc' := 44) (st' := [.int (3 : Int32), .int x1, .ref 302]) rfl rfl trivial ?_
    refine xw_G (pc' := 46) (st' := [.int (100 : Int32), .int (3 : Int32), .int x1, .ref 302]) rfl rfl trivial ?_
    refine xb_e hf (fun v20 h21 e22 hf => ?_)
    refine xw_V (v := none) rfl rfl (xkf (xs_k hS rfl rfl : xm_k h18 302 = (11, 0))) (Nat.le_of_ble_eq_true rfl) (Nat.le_of_ble_eq_true rfl) (xm_Rn_le (Nat.le_of_ble_eq_true rfl) (t_X11_set  hS e22).1) ?_
    have hS := (t_X11_set  hS e22).2
    show xm_W _ _ _ 49 _ [] _
    refine xw_G (pc' := 50) (st' := [.int v14]) rfl rfl trivial ?_
    exact xr_i (inj := xji) rfl rfl rfl rfl hf hQ hS
def f_X10_setFloor (ρ : Nat) (x1 : Int32) (x2 : Int32) (h : xm_H) : Option ((Int32 ⊕ Nat × Nat) × xm_H) := (xe (f_X10_requireTag ρ x1 h) (fun v1 h2 => (xe (f_X10_requireRange x2 (0 : Int32) (999 : Int32) h2) (fun v4 h5 => (xb (f_X3_remember h5) fun v7 h8 => (if xin x1 6 then (xl (xm_si h8 202 (Int32.toNatClampNeg x1) x2) fun h11 => (some (.inl (xm_i h8 202 (Int32.toNatClampNeg x1)), h11))) else none))) (fun q13 h14 => (some (.inr q13, h14))))) (fun q16 h17 => (some (.inr q16, h17))))
theorem t_X10_setFloor {ρ : Nat} {δ : Nat} {x1 : Int32} {x2 : Int32} {h : xm_H} {w : (Int32 ⊕ Nat × Nat) × xm_H}  (hS : xS ρ δ h) (hf : f_X10_setFloor ρ x1 x2 h = some w) : xm_Rn xX 3 108 [.ref 160, .int x1, .int x2] h (xti w.1) w.2 ∧ xS ρ δ w.2 := by
  refine xt_mk (φ := fun h => xS ρ δ h) (M := xM_X10_setFloor) (ls := [some (.ref 160), some (.int x1), some (.int x2), none]) rfl (Nat.le_of_ble_eq_true rfl) rfl (fun Q hQ => ?_)
  unfold f_X10_setFloor at hf
  refine xw_G (pc' := 1) (st' := [.ref 160]) rfl rfl trivial ?_
  refine xw_G (pc' := 2) (st' := [.int x1, .ref 160]) rfl rfl trivial ?_
  refine xe_e hf (fun v1 h2 e3 hf => ?_) (fun q16 h17 e3 hf => ?_)
  · refine xw_V (v := none) rfl rfl (xkf (xs_k hS rfl rfl : xm_k h 160 = (0, 0))) (Nat.le_of_ble_eq_true rfl) (Nat.le_of_ble_eq_true rfl) (xm_Rn_le (Nat.le_of_ble_eq_true rfl) (t_X10_requireTag  hS e3).1) ?_
    have hS := (t_X10_requireTag  hS e3).2
    show xm_W _ _ _ 5 _ [] _
    refine xw_G (pc' := 6) (st' := [.int x2]) rfl rfl trivial ?_
    refine xw_G (pc' := 7) (st' := [.int (0 : Int32), .int x2]) rfl rfl trivial ?_
    refine xw_G (pc' := 10) (st' := [.int (999 : Int32), .int (0 : Int32), .int x2]) rfl rfl trivial ?_
    refine xe_e hf (fun v4 h5 e6 hf => ?_) (fun q13 h14 e6 hf => ?_)
    · refine xw_S (v := none) rfl (Nat.le_of_ble_eq_true rfl) (Nat.le_of_ble_eq_true rfl) (xm_Rn_le (Nat.le_of_ble_eq_true rfl) (t_X10_requireRange  hS e6).1) ?_
      have hS := (t_X10_requireRange  hS e6).2
      show xm_W _ _ _ 13 _ [] _
      refine xw_G (pc' := 14) (st' := [.ref 160]) rfl rfl trivial ?_
      refine xw_gr rfl (xkf (xs_k hS rfl rfl : xm_k h5 160 = (0, 0))) (xs_r hS rfl) ?_
      refine xw_G (pc' := 18) (st' := [.ref 160, .ref 234]) rfl rfl trivial ?_
      refine xw_gr rfl (xkf (xs_k hS rfl rfl : xm_k h5 160 = (0, 0))) (xs_r hS rfl) ?_
      refine xw_gr rfl (xkf (xs_k hS rfl rfl : xm_k h5 182 = (3, 0))) (xs_r hS rfl) ?_
      refine xb_e hf (fun v7 h8 e9 hf => ?_)
      refine xw_V (v := none) rfl rfl (xkf (xs_k hS rfl rfl : xm_k h5 234 = (4, 0))) (Nat.le_of_ble_eq_true rfl) (Nat.le_of_ble_eq_true rfl) (xm_Rn_le (Nat.le_of_ble_eq_true rfl) (t_X3_remember  hS e9).1) ?_
      have hS := (t_X3_remember  hS e9).2
      show xm_W _ _ _ 27 _ [] _
      refine xw_G (pc' := 28) (st' := [.ref 160]) rfl rfl trivial ?_
      refine xw_gr rfl (xkf (xs_k hS rfl rfl : xm_k h8 160 = (0, 0))) (xs_r hS rfl) ?_
      refine xw_gr rfl (xkf (xs_k hS rfl rfl : xm_k h8 182 = (3, 0))) (xs_r hS rfl) ?_
      refine xw_gr rfl (xkf (xs_k hS rfl rfl : xm_k h8 201 = (8, 0))) (xs_r hS rfl) ?_
      refine xw_G (pc' := 38) (st' := [.int x1, .ref 202]) rfl rfl trivial ?_
      refine xg_e hf (fun hg10 hf => ?_)
      refine xa_ld (t := 100) (τ := 0) (v := .int (xm_i h8 202 (Int32.toNatClampNeg x1))) rfl rfl (xkf (xs_k hS rfl rfl : xm_k h8 202 = (100, 6))) (xkn (xs_k hS rfl rfl : xm_k h8 202 = (100, 6))) hg10 rfl ?_
      refine xw_G (pc' := 40) (ls' := [some (.ref 160), some (.int x1), some (.int x2), some (.int (xm_i h8 202 (Int32.toNatClampNeg x1)))]) (st' := []) rfl rfl (Nat.le_of_ble_eq_true rfl) ?_
      refine xw_G (pc' := 41) (st' := [.ref 160]) rfl rfl trivial ?_
      refine xw_gr rfl (xkf (xs_k hS rfl rfl : xm_k h8 160 = (0, 0))) (xs_r hS rfl) ?_
      refine xw_gr rfl (xkf (xs_k hS rfl rfl : xm_k h8 182 = (3, 0))) (xs_r hS rfl) ?_
      refine xw_gr rfl (xkf (xs_k hS rfl rfl : xm_k h8 201 = (8, 0))) (xs_r hS rfl) ?_
      refine xw_G (pc' := 51) (st' := [.int x1, .ref 202]) rfl rfl trivial ?_
      refine xw_G (pc' := 52) (st' := [.int x2, .int x1, .ref 202]) rfl rfl trivial ?_
      refine xa_i rfl (xkf (xs_k hS rfl rfl : xm_k h8 202 = (100, 6))) (xkn (xs_k hS rfl rfl : xm_k h8 202 = (100, 6))) hg10 (Nat.le_of_ble_eq_true rfl) hf (fun h11 e12 hf => ?_)
      have hS := xS_si hS e12
      refine xw_G (pc' := 54) (st' := [.int (xm_i h8 202 (Int32.toNatClampNeg x1))]) rfl rfl trivial ?_
      exact xr_i (inj := xti) rfl rfl rfl rfl hf hQ hS
    · refine xw_SX (x := q13) rfl (Nat.le_of_ble_eq_true rfl) (Nat.le_of_ble_eq_true rfl) (xm_Rn_le (Nat.le_of_ble_eq_true rfl) (t_X10_requireRange  hS e6).1) rfl ?_
      have hS := (t_X10_requireRange  hS e6).2
      exact xr_x (inj := xti) rfl hf hQ hS
  · refine xw_VX (x := q16) rfl rfl (xkf (xs_k hS rfl rfl : xm_k h 160 = (0, 0))) (Nat.le_of_ble_eq_true rfl) (Nat.le_of_ble_eq_true rfl) (xm_Rn_le (Nat.le_of_ble_eq_true rfl) (t_X10_requireTag  hS e3).1) rfl ?_
    have hS := (t_X10_requireTag  hS e3).2
    exact xr_x (inj := xti) rfl hf hQ hS
def f_L_setFloor (ρ : Nat) (x1 : Int32) (x2 : Int32) (h : xm_H) : Option (Int32 × xm_H) := (xe (f_X10_setFloor ρ x1 x2 h) (fun v1 h2 => (xl (xm_sl h2 316 0 (Int32.toInt64 v1)) fun h4 => (some ((0 : Int32), h4)))) (fun q6 h7 => (if (q6).1 = 14 then (some ((1 : Int32), h7)) else (if (q6).1 = 15 then (some ((2 : Int32), h7)) else none))))
theorem t_L_setFloor {ρ : Nat} {δ : Nat} {x1 : Int32} {x2 : Int32} {h : xm_H} {w : Int32 × xm_H}  (hS : xS ρ δ h) (hf : f_L_setFloor ρ x1 x2 h = some w) : xm_Rn xX 4 353 [.ref 160, .int x1, .int x2, .ref 316] h (xji w.1) w.2 ∧ xS ρ δ w.2 := by
  refine xt_mk (φ := fun h => xS ρ δ h) (M := xM_L_setFloor) (ls := [some (.ref 160), some (.int x1), some (.int x2), some (.ref 316), none]) rfl (Nat.le_of_ble_eq_true rfl) rfl (fun Q hQ => ?_)
  unfold f_L_setFloor at hf
  refine xw_G (pc' := 1) (st' := [.ref 316]) rfl rfl trivial ?_
  refine xw_G (pc' := 2) (st' := [.int (0 : Int32), .ref 316]) rfl rfl trivial ?_
  refine xw_G (pc' := 3) (st' := [.ref 160, .int (0 : Int32), .ref 316]) rfl rfl trivial ?_
  refine xw_G (pc' := 4) (st' := [.int x1, .ref 160, .int (0 : Int32), .ref 316]) rfl rfl trivial ?_
  refine xw_G (pc' := 5) (st' := [.int x2, .int x1, .ref 160, .int (0 : Int32), .ref 316]) rfl rfl trivial ?_
  refine xe_e hf (fun v1 h2 e3 hf => ?_) (fun q6 h7 e3 hf => ?_)
  · refine xw_V (v := some (.int v1)) rfl rfl (xkf (xs_k hS rfl rfl : xm_k h 160 = (0, 0))) (Nat.le_of_ble_eq_true rfl) (Nat.le_of_ble_eq_true rfl) (xm_Rn_le (Nat.le_of_ble_eq_true rfl) (t_X10_setFloor  hS e3).1) ?_
    have hS := (t_X10_setFloor  hS e3).2
    show xm_W _ _ _ 8 _ [.int v1, .int (0 : Int32), .ref 316] _
    refine xw_G (pc' := 9) (st' := [.long (Int32.toInt64 v1), .int (0 : Int32), .ref 316]) rfl rfl trivial ?_
    refine xa_l rfl (xkf (xs_k hS rfl rfl : xm_k h2 316 = (104, 1))) (xkn (xs_k hS rfl rfl : xm_k h2 316 = (104, 1))) (by decide : xin (0 : Int32) 1) (Nat.le_of_ble_eq_true rfl) hf (fun h4 e5 hf => ?_)
    have hS := xS_sl hS e5
    refine xw_G (pc' := 21) (st' := []) rfl rfl trivial ?_
    refine xw_G (pc' := 22) (st' := [.int (0 : Int32)]) rfl rfl trivial ?_
    exact xr_i (inj := xji) rfl rfl rfl rfl hf hQ hS
  · by_cases hc8 : (q6).1 = 14
    · rw [if_pos hc8] at hf
      refine xw_VH (x := q6) (p := 13) rfl rfl (xkf (xs_k hS rfl rfl : xm_k h 160 = (0, 0))) (Nat.le_of_ble_eq_true rfl) (Nat.le_of_ble_eq_true rfl) (xm_Rn_le (Nat.le_of_ble_eq_true rfl) (t_X10_setFloor  hS e3).1) (by rw [hc8]; rfl) ?_
      have hS := (t_X10_setFloor  hS e3).2
      refine xw_G (pc' := 15) (ls' := [some (.ref 160), some (.int x1), some (.int x2), some (.ref 316), some (.ref ((q6).2))]) (st' := []) rfl rfl (Nat.le_of_ble_eq_true rfl) ?_
      refine xw_G (pc' := 16) (st' := [.int (1 : Int32)]) rfl rfl trivial ?_
      exact xr_i (inj := xji) rfl rfl rfl rfl hf hQ hS
    · rw [if_neg hc8] at hf
      by_cases hc8 : (q6).1 = 15
      · rw [if_pos hc8] at hf
        refine xw_VH (x := q6) (p := 17) rfl rfl (xkf (xs_k hS rfl rfl : xm_k h 160 = (0, 0))) (Nat.le_of_ble_eq_true rfl) (Nat.le_of_ble_eq_true rfl) (xm_Rn_le (Nat.le_of_ble_eq_true rfl) (t_X10_setFloor  hS e3).1) (by rw [hc8]; rfl) ?_
        have hS := (t_X10_setFloor  hS e3).2
        refine xw_G (pc' := 19) (ls' := [some (.ref 160), some (.int x1), some (.int x2), some (.ref 316), some (.ref ((q6).2))]) (st' := []) rfl rfl (Nat.le_of_ble_eq_true rfl) ?_
        refine xw_G (pc' := 20) (st' := [.int (2 : Int32)]) rfl rfl trivial ?_
        exact xr_i (inj := xji) rfl rfl rfl rfl hf hQ hS
      · rw [if_neg hc8] at hf
        exact (xn_e hf).elim
def f_X11_setFloor (N : Nat) (x1 : Int32) (x2 : Int32) (h : xm_H) : Option (Int32 × xm_H) := (xb (f_X11_isTag x1 h) fun v1 h2 => (xb (f_X11_between (Int32.toInt64 x2) (0 : Int64) (999 : Int64) h2) fun v4 h5 => (xb (f_X11_good_ v1 v4 h5) fun v7 h8 => (if v7 = 0 then (some ((0 : Int32), h8)) else (xb (f_X11_remember N h8) fun v11 h12 => (if xin ((51 : Int32) + x1) 2217 then (xl (xm_si h12 303 (Int32.toNatClampNeg ((51 : Int32) + x1)) x2) fun h15 => (some (xm_i h12 303 (Int32.toNatClampNeg ((51 : Int32) + x1)), h15))) else none))))))
theorem t_X11_setFloor {N : Nat} {ρ : Nat} {δ : Nat} {x1 : Int32} {x2 : Int32} {h : xm_H} {w : Int32 × xm_H}  (hS : xS ρ δ h) (hf : f_X11_setFloor N x1 x2 h = some w) : xm_Rn xX 3 228 [.ref 302, .int x1, .int x2] h (xji w.1) w.2 ∧ xS ρ δ w.2 := by
  refine xt_mk (φ := fun h => xS ρ δ h) (M := xM_X11_setFloor) (ls := [some (.ref 302), some (.int x1), some (.int x2), none]) rfl (Nat.le_of_ble_eq_true rfl) rfl (fun Q hQ => ?_)
  unfold f_X11_setFloor at hf
  refine xw_G (pc' := 1) (st' := [.ref 302]) rfl rfl trivial ?_
  refine xw_G (pc' := 2) (st' := [.ref 302, .ref 302]) rfl rfl trivial ?_
  refine xw_G (pc' := 3) (st' := [.int x1, .ref 302, .ref 302]) rfl rfl trivial ?_
  refine xb_e hf (fun v1 h2 e3 hf => ?_)
  refine xw_V (v := some (.int v1)) rfl rfl (xkf (xs_k hS rfl rfl : xm_k h 302 = (11, 0))) (Nat.le_of_ble_eq_true rfl) (Nat.le_of_ble_eq_true rfl) (xm_Rn_le (Nat.le_of_ble_eq_true rfl) (t_X11_isTag  hS e3).1) ?_
  have hS := (t_X11_isTag  hS e3).2
  show xm_W _ _ _ 6 _ [.int v1, .ref 302] _
  refine xw_G (pc' := 7) (st' := [.int x2, .int v1, .ref 302]) rfl rfl trivial ?_
  refine xw_G (pc' := 8) (st' := [.long (Int32.toInt64 x2), .int v1, .ref 302]) rfl rfl trivial ?_
  refine xw_G (pc' := 9) (st' := [.long (0 : Int64), .long (Int32.toInt64 x2), .int v1, .ref 302]) rfl rfl trivial ?_
  refine xw_G (pc' := 12) (st' := [.long (999 : Int64), .long (0 : Int64), .long (Int32.toInt64 x2), .int v1, .ref 302]) rfl rfl trivial ?_
  refine xb_e hf (fun v4 h5 e6 hf => ?_)
  refine xw_S (v := some (.int v4)) rfl (Nat.le_of_ble_eq_true rfl) (Nat.le_of_ble_eq_true rfl) (xm_Rn_le (Nat.le_of_ble_eq_true rfl) (t_X11_between  hS e6).1) ?_
  have hS := (t_X11_between  hS e6).2
  show xm_W _ _ _ 15 _ [.int v4, .int v1, .ref 302] _
  refine xb_e hf (fun v7 h8 e9 hf => ?_)
  refine xw_V (v := some (.int v7)) rfl rfl (xkf (xs_k hS rfl rfl : xm_k h5 302 = (11, 0))) (Nat.le_of_ble_eq_true rfl) (Nat.le_of_ble_eq_true rfl) (xm_Rn_le (Nat.le_of_ble_eq_true rfl) (t_X11_good_  hS e9).1) ?_
  have hS := (t_X11_good_  hS e9).2
  show xm_W _ _ _ 18 _ [.int v7] _
  refine xj_if_ne rfl hf (fun hc10 hf => ?_) (fun hc10 hf => ?_)
  · refine xw_G (pc' := 22) (st' := [.int (0 : Int32)]) rfl rfl trivial ?_
    exact xr_i (inj := xji) rfl rfl rfl rfl hf hQ hS
  · refine xw_G (pc' := 24) (st' := [.ref 302]) rfl rfl trivial ?_
    refine xb_e hf (fun v11 h12 e13 hf => ?_)
    refine xw_V (v := none) rfl rfl (xkf (xs_k hS rfl rfl : xm_k h8 302 = (11, 0))) (Nat.le_of_ble_eq_true rfl) (Nat.le_of_ble_eq_true rfl) (xm_Rn_le (Nat.le_of_ble_eq_true rfl) (t_X11_remember  hS e13).1) ?_
    have hS := (t_X11_remember  hS e13).2
    show xm_W _ _ _ 27 _ [] _
    refine xw_G (pc' := 28) (st' := [.ref 302]) rfl rfl trivial ?_
    refine xw_gr rfl (xkf (xs_k hS rfl rfl : xm_k h12 302 = (11, 0))) (xs_r hS rfl) ?_
    refine xw_G (pc' := 33) (st' := [.int (51 : Int32), .ref 303]) rfl rfl trivial ?_
    refine xw_G (pc' := 34) (st' := [.int x1, .int (51 : Int32), .ref 303]) rfl rfl trivial ?_
    refine xw_G (pc' := 35) (st' := [.int ((51 : Int32) + x1), .ref 303]) rfl rfl trivial ?_
    refine xg_e hf (fun hg14 hf => ?_)
    refine xa_ld (t := 100) (τ := 0) (v := .int (xm_i h12 303 (Int32.toNatClampNeg ((51 : Int32) + x1)))) rfl rfl (xkf (xs_k hS rfl rfl : xm_k h12 303 = (100, 2217))) (xkn (xs_k hS rfl rfl : xm_k h12 303 = (100, 2217))) hg14 rfl ?_
    refine xw_G (pc' := 37) (ls' := [some (.ref 302), some (.int x1), some (.int x2), some (.int (xm_i h12 303 (Int32.toNatClampNeg ((51 : Int32) + x1))))]) (st' := []) rfl rfl (Nat.le_of_ble_eq_true rfl) ?_
    refine xw_G (pc' := 38) (st' := [.ref 302]) rfl rfl trivial ?_
    refine xw_gr rfl (xkf (xs_k hS rfl rfl : xm_k h12 302 = (11, 0))) (xs_r hS rfl) ?_
    refine xw_G (pc' := 43) (st' := [.int (51 : Int32), .ref 303]) rfl rfl trivial ?_
    refine xw_G (pc' := 44) (st' := [.int x1, .int (51 : Int32), .ref 303]) rfl rfl trivial ?_
    refine xw_G (pc' := 45) (st' := [.int ((51 : Int32) + x1), .ref 303]) rfl rfl trivial ?_
    refine xw_G (pc' := 46) (st' := [.int x2, .int ((51 : Int32) + x1), .ref 303]) rfl rfl trivial ?_
    refine xa_i rfl (xkf (xs_k hS rfl rfl : xm_k h12 303 = (100, 2217))) (xkn (xs_k hS rfl rfl : xm_k h12 303 = (100, 2217))) hg14 (Nat.le_of_ble_eq_true rfl) hf (fun h15 e16 hf => ?_)
    have hS := xS_si hS e16
    refine xw_G (pc' := 48) (st' := [.int (xm_i h12 303 (Int32.toNatClampNeg ((51 : Int32) + x1)))]) rfl rfl trivial ?_
    exact xr_i (inj := xji) rfl rfl rfl rfl hf hQ hS
def f_X3_restore  (h : xm_H) : Option (Unit × xm_H) := (if xin (xm_i h 234 1) 8 then (xb (f_X7_copy 201 (236 + 8 * Int32.toNatClampNeg (xm_i h 234 1)) h) fun v2 h3 => (xl (xm_si h3 234 1 ((((xm_i h3 234 1) + (8 : Int32)) - (1 : Int32)) - (((xm_i h3 234 1) + (8 : Int32)) - (1 : Int32)) / (8 : Int32) * (8 : Int32))) fun h5 => (xl (xm_si h5 234 2 ((xm_i h5 234 2) - (1 : Int32))) fun h7 => (some ((), h7))))) else none)
theorem t_X3_restore {ρ : Nat} {δ : Nat} {h : xm_H} {w : Unit × xm_H}  (hS : xS ρ δ h) (hf : f_X3_restore  h = some w) : xm_Rn xX 2 28 [.ref 234, .ref 201] h (xjv w.1) w.2 ∧ xS ρ δ w.2 := by
  refine xt_mk (φ := fun h => xS ρ δ h) (M := xM_X3_restore) (ls := [some (.ref 234), some (.ref 201)]) rfl (Nat.le_of_ble_eq_true rfl) rfl (fun Q hQ => ?_)
  unfold f_X3_restore at hf
  refine xw_G (pc' := 1) (st' := [.ref 201]) rfl rfl trivial ?_
  refine xw_G (pc' := 2) (st' := [.ref 234, .ref 201]) rfl rfl trivial ?_
  refine xw_gr rfl (xkf (xs_k hS rfl rfl : xm_k h 234 = (4, 0))) (xs_r hS rfl) ?_
  refine xw_G (pc' := 6) (st' := [.ref 234, .ref 235, .ref 201]) rfl rfl trivial ?_
  refine xw_G (pc' := 9) (st' := [.int (xm_i h 234 1), .ref 235, .ref 201]) rfl rfl (xkf (xs_k hS rfl rfl : xm_k h 234 = (4, 0))) ?_
  refine xg_e hf (fun hg1 hf => ?_)
  refine xa_ar (b := (236 + 8 * Int32.toNatClampNeg (xm_i h 234 1))) rfl (xkf (xs_k hS rfl rfl : xm_k h 235 = (108, 8))) (xkn (xs_k hS rfl rfl : xm_k h 235 = (108, 8))) hg1 (xsRing hS hg1) ?_
  refine xb_e hf (fun v2 h3 e4 hf => ?_)
  refine xw_V (v := none) rfl rfl (xkf (xs_k hS rfl rfl : xm_k h 201 = (8, 0))) (Nat.le_of_ble_eq_true rfl) (Nat.le_of_ble_eq_true rfl) (xm_Rn_le (Nat.le_of_ble_eq_true rfl) (t_X7_copy (Or.inl rfl) (xIsS_ring (j := (xm_i h 234 1)) hg1) hS e4).1) ?_
  have hS := (t_X7_copy (Or.inl rfl) (xIsS_ring (j := (xm_i h 234 1)) hg1) hS e4).2
  show xm_W _ _ _ 13 _ [] _
  refine xw_G (pc' := 14) (st' := [.ref 234]) rfl rfl trivial ?_
  refine xw_G (pc' := 15) (st' := [.ref 234, .ref 234]) rfl rfl trivial ?_
  refine xw_G (pc' := 18) (st' := [.int (xm_i h3 234 1), .ref 234]) rfl rfl (xkf (xs_k hS rfl rfl : xm_k h3 234 = (4, 0))) ?_
  refine xw_G (pc' := 20) (st' := [.int (8 : Int32), .int (xm_i h3 234 1), .ref 234]) rfl rfl trivial ?_
  refine xw_G (pc' := 21) (st' := [.int ((xm_i h3 234 1) + (8 : Int32)), .ref 234]) rfl rfl trivial ?_
  refine xw_G (pc' := 22) (st' := [.int (1 : Int32), .int ((xm_i h3 234 1) + (8 : Int32)), .ref 234]) rfl rfl trivial ?_
  refine xw_G (pc' := 23) (st' := [.int (((xm_i h3 234 1) + (8 : Int32)) - (1 : Int32)), .ref 234]) rfl rfl trivial ?_
  refine xw_G (pc' := 25) (st' := [.int (8 : Int32), .int (((xm_i h3 234 1) + (8 : Int32)) - (1 : Int32)), .ref 234]) rfl rfl trivial ?_
  refine xw_G (pc' := 26) (st' := [.int ((((xm_i h3 234 1) + (8 : Int32)) - (1 : Int32)) - (((xm_i h3 234 1) + (8 : Int32)) - (1 : Int32)) / (8 : Int32) * (8 : Int32)), .ref 234]) rfl rfl (by decide) ?_
  refine xp_i rfl (xkf (xs_k hS rfl rfl : xm_k h3 234 = (4, 0))) (Nat.le_of_ble_eq_true rfl) hf (fun h5 e6 hf => ?_)
  have hS := xS_si hS e6
  refine xw_G (pc' := 30) (st' := [.ref 234]) rfl rfl trivial ?_
  refine xw_G (pc' := 31) (st' := [.ref 234, .ref 234]) rfl rfl rfl ?_
  refine xw_G (pc' := 34) (st' := [.int (xm_i h5 234 2), .ref 234]) rfl rfl (xkf (xs_k hS rfl rfl : xm_k h5 234 = (4, 0))) ?_
  refine xw_G (pc' := 35) (st' := [.int (1 : Int32), .int (xm_i h5 234 2), .ref 234]) rfl rfl trivial ?_
  refine xw_G (pc' := 36) (st' := [.int ((xm_i h5 234 2) - (1 : Int32)), .ref 234]) rfl rfl trivial ?_
  refine xp_i rfl (xkf (xs_k hS rfl rfl : xm_k h5 234 = (4, 0))) (Nat.le_of_ble_eq_true rfl) hf (fun h7 e8 hf => ?_)
  have hS := xS_si hS e8
  exact xr_v (inj := xjv) rfl rfl hf hQ hS
def f_X10_undo  (h : xm_H) : Option (Int32 × xm_H) := (if (xm_i h 234 2) = 0 then (some ((-1 : Int32), h)) else (xb (f_X3_restore h) fun v2 h3 => (some (xm_i h3 234 2, h3))))
theorem t_X10_undo {ρ : Nat} {δ : Nat} {h : xm_H} {w : Int32 × xm_H}  (hS : xS ρ δ h) (hf : f_X10_undo  h = some w) : xm_Rn xX 3 109 [.ref 160] h (xji w.1) w.2 ∧ xS ρ δ w.2 := by
  refine xt_mk (φ := fun h => xS ρ δ h) (M := xM_X10_undo) (ls := [some (.ref 160)]) rfl (Nat.le_of_ble_eq_true rfl) rfl (fun Q hQ => ?_)
  unfold f_X10_undo at hf
  refine xw_G (pc' := 1) (st' := [.ref 160]) rfl rfl trivial ?_
  refine xw_gr rfl (xkf (xs_k hS rfl rfl : xm_k h 160 = (0, 0))) (xs_r hS rfl) ?_
  refine xw_G (pc' := 7) (st' := [.int (xm_i h 234 2)]) rfl rfl (xkf (xs_k hS rfl rfl : xm_k h 234 = (4, 0))) ?_
  refine xj_if_ne rfl hf (fun hc1 hf => ?_) (fun hc1 hf => ?_)
  · refine xw_G (pc' := 11) (st' := [.int (-1 : Int32)]) rfl rfl trivial ?_
    exact xr_i (inj := xji) rfl rfl rfl rfl hf hQ hS
  · refine xw_G (pc' := 13) (st' := [.ref 160]) rfl rfl trivial ?_
    refine xw_gr rfl (xkf (xs_k hS rfl rfl : xm_k h 160 = (0, 0))) (xs_r hS rfl) ?_
    refine xw_G (pc' := 17) (st' := [.ref 160, .ref 234]) rfl rfl trivial ?_
    refine xw_gr rfl (xkf (xs_k hS rfl rfl : xm_k h 160 = (0, 0))) (xs_r hS rfl) ?_
    refine xw_gr rfl (xkf (xs_k hS rfl rfl : xm_k h 182 = (3, 0))) (xs_r hS rfl) ?_
    refine xb_e hf (fun v2 h3 e4 hf => ?_)
    refine xw_V (v := none) rfl rfl (xkf (xs_k hS rfl rfl : xm_k h 234 = (4, 0))) (Nat.le_of_ble_eq_true rfl) (Nat.le_of_ble_eq_true rfl) (xm_Rn_le (Nat.le_of_ble_eq_true rfl) (t_X3_restore  hS e4).1) ?_
    have hS := (t_X3_restore  hS e4).2
    show xm_W _ _ _ 26 _ [] _
    refine xw_G (pc' := 27) (st' := [.ref 160]) rfl rfl trivial ?_
    refine xw_gr rfl (xkf (xs_k hS rfl rfl : xm_k h3 160 = (0, 0))) (xs_r hS rfl) ?_
    refine xw_G (pc' := 33) (st' := [.int (xm_i h3 234 2)]) rfl rfl (xkf (xs_k hS rfl rfl : xm_k h3 234 = (4, 0))) ?_
    exact xr_i (inj := xji) rfl rfl rfl rfl hf hQ hS
def f_X11_undo_26B (N : Nat) (rec : Int32 → xm_H → Option (Int32 × xm_H)) (c1 : Int32) (h : xm_H) : Option (Int32 × xm_H) := (if c1 < (2217 : Int32) then (if xin (((2217 : Int32) * (xm_i h 302 3)) + c1) 17736 then (if xin c1 2217 then (xl (xm_si h 303 (Int32.toNatClampNeg c1) (xm_i h 305 (Int32.toNatClampNeg (((2217 : Int32) * (xm_i h 302 3)) + c1)))) fun h4 => (rec (c1 + (1 : Int32)) h4)) else none) else none) else (some (xm_i h 302 3, h)))
def f_X11_undo_26 (N : Nat) : Nat → Int32 → xm_H → Option (Int32 × xm_H)
  | 0 => fun _ _ => none
  | n + 1 => fun c1 h => f_X11_undo_26B N (f_X11_undo_26 N n) c1 h
def f_X11_undo (N : Nat) (h : xm_H) : Option (Int32 × xm_H) := (xl (xm_si h 302 4 (0 : Int32)) fun h1 => (if (xm_i h1 302 3) = 0 then (some ((-1 : Int32), h1)) else (xl (xm_si h1 302 3 ((xm_i h1 302 3) - (1 : Int32))) fun h4 => (f_X11_undo_26 N N (0 : Int32) h4))))
theorem tl_X11_undo_26 {ρ : Nat} {δ : Nat} {N : Nat} {Q : xm_O → xm_H → Prop} {w : Int32 × xm_H}  (hQ : xS ρ δ w.2 → Q (xji w.1) w.2)  : ∀ (n : Nat) (c1 : Int32) (h : xm_H), xS ρ δ h → f_X11_undo_26 N n c1 h = some w → xm_W (xm_Rn xX 0) xM_X11_undo Q 26 [some (.ref 302), some (.int c1)] [] h := by
  intro n
  induction n with
  | zero =>
    intro c1 h hS hf
    exact (xn_e hf).elim
  | succ n ih =>
    intro c1 h hS hf
    replace hf : f_X11_undo_26B N (f_X11_undo_26 N n) c1 h = some w := hf
    unfold f_X11_undo_26B at hf
    refine xw_K (pc' := 27) (ls' := [some (.ref 302), some (.int c1)]) (st' := [.int c1]) rfl rfl trivial ?_
    refine xw_G (pc' := 30) (st' := [.int (2217 : Int32), .int c1]) rfl rfl trivial ?_
    refine xj_ic_ge rfl hf (fun hc1 hf => ?_) (fun hc1 hf => ?_)
    · refine xw_G (pc' := 34) (st' := [.ref 302]) rfl rfl trivial ?_
      refine xw_gr rfl (xkf (xs_k hS rfl rfl : xm_k h 302 = (11, 0))) (xs_r hS rfl) ?_
      refine xw_G (pc' := 38) (st' := [.int c1, .ref 303]) rfl rfl trivial ?_
      refine xw_G (pc' := 39) (st' := [.ref 302, .int c1, .ref 303]) rfl rfl trivial ?_
      refine xw_gr rfl (xkf (xs_k hS rfl rfl : xm_k h 302 = (11, 0))) (xs_r hS rfl) ?_
      refine xw_G (pc' := 45) (st' := [.int (2217 : Int32), .ref 305, .int c1, .ref 303]) rfl rfl trivial ?_
      refine xw_G (pc' := 46) (st' := [.ref 302, .int (2217 : Int32), .ref 305, .int c1, .ref 303]) rfl rfl trivial ?_
      refine xw_G (pc' := 49) (st' := [.int (xm_i h 302 3), .int (2217 : Int32), .ref 305, .int c1, .ref 303]) rfl rfl (xkf (xs_k hS rfl rfl : xm_k h 302 = (11, 0))) ?_
      refine xw_G (pc' := 50) (st' := [.int ((2217 : Int32) * (xm_i h 302 3)), .ref 305, .int c1, .ref 303]) rfl rfl trivial ?_
      refine xw_G (pc' := 51) (st' := [.int c1, .int ((2217 : Int32) * (xm_i h 302 3)), .ref 305, .int c1, .ref 303]) rfl rfl trivial ?_
      refine xw_G (pc' := 52) (st' := [.int (((2217 : Int32) * (xm_i h 302 3)) + c1), .ref 305, .int c1, .ref 303]) rfl rfl trivial ?_
      refine xg_e hf (fun hg2 hf => ?_)
      refine xa_ld (t := 100) (τ := 0) (v := .int (xm_i h 305 (Int32.toNatClampNeg (((2217 : Int32) * (xm_i h 302 3)) + c1)))) rfl rfl (xkf (xs_k hS rfl rfl : xm_k h 305 = (100, 17736))) (xkn (xs_k hS rfl rfl : xm_k h 305 = (100, 17736))) hg2 rfl ?_
      refine xg_e hf (fun hg3 hf => ?_)
      refine xa_i rfl (xkf (xs_k hS rfl rfl : xm_k h 303 = (100, 2217))) (xkn (xs_k hS rfl rfl : xm_k h 303 = (100, 2217))) hg3 (Nat.le_of_ble_eq_true rfl) hf (fun h4 e5 hf => ?_)
      have hS := xS_si hS e5
      refine xw_G (pc' := 57) (ls' := [some (.ref 302), some (.int (c1 + (1 : Int32)))]) (st' := []) rfl rfl (Nat.le_of_ble_eq_true rfl) ?_
      refine xw_G (pc' := 26) (st' := []) rfl rfl trivial ?_
      refine xw_M rfl rfl ?_
      exact ih _ _ hS hf
    · refine xw_G (pc' := 61) (st' := [.ref 302]) rfl rfl trivial ?_
      refine xw_G (pc' := 64) (st' := [.int (xm_i h 302 3)]) rfl rfl (xkf (xs_k hS rfl rfl : xm_k h 302 = (11, 0))) ?_
      exact xr_i (inj := xji) rfl rfl rfl rfl hf hQ hS
theorem t_X11_undo {N : Nat} {ρ : Nat} {δ : Nat} {h : xm_H} {w : Int32 × xm_H}  (hS : xS ρ δ h) (hf : f_X11_undo N h = some w) : xm_Rn xX 1 139 [.ref 302] h (xji w.1) w.2 ∧ xS ρ δ w.2 := by
  refine xt_mk (φ := fun h => xS ρ δ h) (M := xM_X11_undo) (ls := [some (.ref 302), none]) rfl (Nat.le_of_ble_eq_true rfl) rfl (fun Q hQ => ?_)
  unfold f_X11_undo at hf
  refine xw_G (pc' := 1) (st' := [.ref 302]) rfl rfl trivial ?_
  refine xw_G (pc' := 2) (st' := [.int (0 : Int32), .ref 302]) rfl rfl trivial ?_
  refine xp_i rfl (xkf (xs_k hS rfl rfl : xm_k h 302 = (11, 0))) (Nat.le_of_ble_eq_true rfl) hf (fun h1 e2 hf => ?_)
  have hS := xS_si hS e2
  refine xw_G (pc' := 6) (st' := [.ref 302]) rfl rfl trivial ?_
  refine xw_G (pc' := 9) (st' := [.int (xm_i h1 302 3)]) rfl rfl (xkf (xs_k hS rfl rfl : xm_k h1 302 = (11, 0))) ?_
  refine xj_if_ne rfl hf (fun hc3 hf => ?_) (fun hc3 hf => ?_)
  · refine xw_G (pc' := 13) (st' := [.int (-1 : Int32)]) rfl rfl trivial ?_
    exact xr_i (inj := xji) rfl rfl rfl rfl hf hQ hS
  · refine xw_G (pc' := 15) (st' := [.ref 302]) rfl rfl trivial ?_
    refine xw_G (pc' := 16) (st' := [.ref 302, .ref 302]) rfl rfl rfl ?_
    refine xw_G (pc' := 19) (st' := [.int (xm_i h1 302 3), .ref 302]) rfl rfl (xkf (xs_k hS rfl rfl : xm_k h1 302 = (11, 0))) ?_
    refine xw_G (pc' := 20) (st' := [.int (1 : Int32), .int (xm_i h1 302 3), .ref 302]) rfl rfl trivial ?_
    refine xw_G (pc' := 21) (st' := [.int ((xm_i h1 302 3) - (1 : Int32)), .ref 302]) rfl rfl trivial ?_
    refine xp_i rfl (xkf (xs_k hS rfl rfl : xm_k h1 302 = (11, 0))) (Nat.le_of_ble_eq_true rfl) hf (fun h4 e5 hf => ?_)
    have hS := xS_si hS e5
    refine xw_G (pc' := 25) (st' := [.int (0 : Int32)]) rfl rfl trivial ?_
    refine xw_G (pc' := 26) (ls' := [some (.ref 302), some (.int (0 : Int32))]) (st' := []) rfl rfl (Nat.le_of_ble_eq_true rfl) ?_
    refine xw_M rfl rfl ?_
    refine tl_X11_undo_26  hQ  _ _ _ hS hf
def f_X10_impressions  (h : xm_H) : Option (Int32 × xm_H) := (some (xm_i h 201 2, h))
theorem t_X10_impressions {ρ : Nat} {δ : Nat} {h : xm_H} {w : Int32 × xm_H}  (hS : xS ρ δ h) (hf : f_X10_impressions  h = some w) : xm_Rn xX 1 110 [.ref 160] h (xji w.1) w.2 ∧ xS ρ δ w.2 := by
  refine xt_mk (φ := fun h => xS ρ δ h) (M := xM_X10_impressions) (ls := [some (.ref 160)]) rfl (Nat.le_of_ble_eq_true rfl) rfl (fun Q hQ => ?_)
  unfold f_X10_impressions at hf
  refine xw_G (pc' := 1) (st' := [.ref 160]) rfl rfl trivial ?_
  refine xw_gr rfl (xkf (xs_k hS rfl rfl : xm_k h 160 = (0, 0))) (xs_r hS rfl) ?_
  refine xw_gr rfl (xkf (xs_k hS rfl rfl : xm_k h 182 = (3, 0))) (xs_r hS rfl) ?_
  refine xw_G (pc' := 10) (st' := [.int (xm_i h 201 2)]) rfl rfl (xkf (xs_k hS rfl rfl : xm_k h 201 = (8, 0))) ?_
  exact xr_i (inj := xji) rfl rfl rfl rfl hf hQ hS
def f_X11_impressions  (h : xm_H) : Option (Int32 × xm_H) := (xl (xm_si h 302 4 (0 : Int32)) fun h1 => (some (xm_i h1 303 1, h1)))
theorem t_X11_impressions {ρ : Nat} {δ : Nat} {h : xm_H} {w : Int32 × xm_H}  (hS : xS ρ δ h) (hf : f_X11_impressions  h = some w) : xm_Rn xX 1 229 [.ref 302] h (xji w.1) w.2 ∧ xS ρ δ w.2 := by
  refine xt_mk (φ := fun h => xS ρ δ h) (M := xM_X11_impressions) (ls := [some (.ref 302)]) rfl (Nat.le_of_ble_eq_true rfl) rfl (fun Q hQ => ?_)
  unfold f_X11_impressions at hf
  refine xw_G (pc' := 1) (st' := [.ref 302]) rfl rfl trivial ?_
  refine xw_G (pc' := 2) (st' := [.int (0 : Int32), .ref 302]) rfl rfl trivial ?_
  refine xp_i rfl (xkf (xs_k hS rfl rfl : xm_k h 302 = (11, 0))) (Nat.le_of_ble_eq_true rfl) hf (fun h1 e2 hf => ?_)
  have hS := xS_si hS e2
  refine xw_G (pc' := 6) (st' := [.ref 302]) rfl rfl trivial ?_
  refine xw_gr rfl (xkf (xs_k hS rfl rfl : xm_k h1 302 = (11, 0))) (xs_r hS rfl) ?_
  refine xw_G (pc' := 10) (st' := [.int (1 : Int32), .ref 303]) rfl rfl trivial ?_
  refine xa_ld (t := 100) (τ := 0) (v := .int (xm_i h1 303 1)) rfl rfl (xkf (xs_k hS rfl rfl : xm_k h1 303 = (100, 2217))) (xkn (xs_k hS rfl rfl : xm_k h1 303 = (100, 2217))) (by decide : xin (1 : Int32) 2217) rfl ?_
  exact xr_i (inj := xji) rfl rfl rfl rfl hf hQ hS
def f_X4_part (x1 : Int32) (x2 : Int32) (h : xm_H) : Option (Int32 × xm_H) := (if x2 = nI 0 then (if xin x1 400 then (some (xm_i h 210 (Int32.toNatClampNeg x1), h)) else none) else (if x2 = nI 1 then (if xin x1 400 then (some (xm_i h 211 (Int32.toNatClampNeg x1), h)) else none) else (if x2 = nI 2 then (if xin x1 400 then (some (xm_i h 212 (Int32.toNatClampNeg x1), h)) else none) else (if x2 = nI 3 then (if xin x1 400 then (some (xm_i h 213 (Int32.toNatClampNeg x1), h)) else none) else (if xin x1 400 then (some (xm_i h 214 (Int32.toNatClampNeg x1), h)) else none)))))
theorem t_X4_part {ρ : Nat} {δ : Nat} {x1 : Int32} {x2 : Int32} {h : xm_H} {w : Int32 × xm_H}  (hS : xS ρ δ h) (hf : f_X4_part x1 x2 h = some w) : xm_Rn xX 1 31 [.ref 209, .int x1, .int x2] h (xji w.1) w.2 ∧ xS ρ δ w.2 := by
  refine xt_mk (φ := fun h => xS ρ δ h) (M := xM_X4_part) (ls := [some (.ref 209), some (.int x1), some (.int x2)]) rfl (Nat.le_of_ble_eq_true rfl) rfl (fun Q hQ => ?_)
  unfold f_X4_part at hf
  refine xw_G (pc' := 1) (st' := [.int x2]) rfl rfl trivial ?_
  refine xj_sw (j := 0) (t := 32) rfl (fun _ z => absurd z (Nat.not_lt_zero _)) rfl rfl hf (fun hf => ?_) (fun hl hf => ?_)
  · refine xw_G (pc' := 33) (st' := [.ref 209]) rfl rfl trivial ?_
    refine xw_gr rfl (xkf (xs_k hS rfl rfl : xm_k h 209 = (5, 0))) (xs_r hS rfl) ?_
    refine xw_G (pc' := 37) (st' := [.int x1, .ref 210]) rfl rfl trivial ?_
    refine xg_e hf (fun hg1 hf => ?_)
    refine xa_ld (t := 100) (τ := 0) (v := .int (xm_i h 210 (Int32.toNatClampNeg x1))) rfl rfl (xkf (xs_k hS rfl rfl : xm_k h 210 = (100, 400))) (xkn (xs_k hS rfl rfl : xm_k h 210 = (100, 400))) hg1 rfl ?_
    exact xr_i (inj := xji) rfl rfl rfl rfl hf hQ hS
  · refine xj_sw (j := 1) (t := 39) rfl hl rfl rfl hf (fun hf => ?_) (fun hl hf => ?_)
    · refine xw_G (pc' := 40) (st' := [.ref 209]) rfl rfl trivial ?_
      refine xw_gr rfl (xkf (xs_k hS rfl rfl : xm_k h 209 = (5, 0))) (xs_r hS rfl) ?_
      refine xw_G (pc' := 44) (st' := [.int x1, .ref 211]) rfl rfl trivial ?_
      refine xg_e hf (fun hg2 hf => ?_)
      refine xa_ld (t := 100) (τ := 0) (v := .int (xm_i h 211 (Int32.toNatClampNeg x1))) rfl rfl (xkf (xs_k hS rfl rfl : xm_k h 211 = (100, 400))) (xkn (xs_k hS rfl rfl : xm_k h 211 = (100, 400))) hg2 rfl ?_
      exact xr_i (inj := xji) rfl rfl rfl rfl hf hQ hS
    · refine xj_sw (j := 2) (t := 46) rfl hl rfl rfl hf (fun hf => ?_) (fun hl hf => ?_)
      · refine xw_G (pc' := 47) (st' := [.ref 209]) rfl rfl trivial ?_
        refine xw_gr rfl (xkf (xs_k hS rfl rfl : xm_k h 209 = (5, 0))) (xs_r hS rfl) ?_
        refine xw_G (pc' := 51) (st' := [.int x1, .ref 212]) rfl rfl trivial ?_
        refine xg_e hf (fun hg3 hf => ?_)
        refine xa_ld (t := 100) (τ := 0) (v := .int (xm_i h 212 (Int32.toNatClampNeg x1))) rfl rfl (xkf (xs_k hS rfl rfl : xm_k h 212 = (100, 400))) (xkn (xs_k hS rfl rfl : xm_k h 212 = (100, 400))) hg3 rfl ?_
        exact xr_i (inj := xji) rfl rfl rfl rfl hf hQ hS
      · refine xj_sw (j := 3) (t := 53) rfl hl rfl rfl hf (fun hf => ?_) (fun hl hf => ?_)
        · refine xw_G (pc' := 54) (st' := [.ref 209]) rfl rfl trivial ?_
          refine xw_gr rfl (xkf (xs_k hS rfl rfl : xm_k h 209 = (5, 0))) (xs_r hS rfl) ?_
          refine xw_G (pc' := 58) (st' := [.int x1, .ref 213]) rfl rfl trivial ?_
          refine xg_e hf (fun hg4 hf => ?_)
          refine xa_ld (t := 100) (τ := 0) (v := .int (xm_i h 213 (Int32.toNatClampNeg x1))) rfl rfl (xkf (xs_k hS rfl rfl : xm_k h 213 = (100, 400))) (xkn (xs_k hS rfl rfl : xm_k h 213 = (100, 400))) hg4 rfl ?_
          exact xr_i (inj := xji) rfl rfl rfl rfl hf hQ hS
        · refine xj_swd (n := 4) (t := 60) rfl hl rfl rfl ?_
          refine xw_G (pc' := 61) (st' := [.ref 209]) rfl rfl trivial ?_
          refine xw_gr rfl (xkf (xs_k hS rfl rfl : xm_k h 209 = (5, 0))) (xs_r hS rfl) ?_
          refine xw_G (pc' := 65) (st' := [.int x1, .ref 214]) rfl rfl trivial ?_
          refine xg_e hf (fun hg5 hf => ?_)
          refine xa_ld (t := 100) (τ := 0) (v := .int (xm_i h 214 (Int32.toNatClampNeg x1))) rfl rfl (xkf (xs_k hS rfl rfl : xm_k h 214 = (100, 400))) (xkn (xs_k hS rfl rfl : xm_k h 214 = (100, 400))) hg5 rfl ?_
          exact xr_i (inj := xji) rfl rfl rfl rfl hf hQ hS
def f_X10_impression (x1 : Int32) (x2 : Int32) (h : xm_H) : Option ((Int32 ⊕ Nat × Nat) × xm_H) := (if x1 < 0 then (some (.inr (14, xm_n h), xm_new h (14, 0))) else (if x1 < (xm_i h 201 2) then (xe (f_X10_requireRange x2 (0 : Int32) (4 : Int32) h) (fun v3 h4 => (xb (f_X4_part x1 x2 h4) fun v6 h7 => (some (.inl v6, h7)))) (fun q9 h10 => (some (.inr q9, h10)))) else (some (.inr (14, xm_n h), xm_new h (14, 0)))))
theorem t_X10_impression {ρ : Nat} {δ : Nat} {x1 : Int32} {x2 : Int32} {h : xm_H} {w : (Int32 ⊕ Nat × Nat) × xm_H}  (hS : xS ρ δ h) (hf : f_X10_impression x1 x2 h = some w) : xm_Rn xX 2 111 [.ref 160, .int x1, .int x2] h (xti w.1) w.2 ∧ xS ρ δ w.2 := by
  refine xt_mk (φ := fun h => xS ρ δ h) (M := xM_X10_impression) (ls := [some (.ref 160), some (.int x1), some (.int x2)]) rfl (Nat.le_of_ble_eq_true rfl) rfl (fun Q hQ => ?_)
  unfold f_X10_impression at hf
  refine xw_G (pc' := 1) (st' := [.int x1]) rfl rfl trivial ?_
  refine xj_if_lt rfl hf (fun hc1 hf => ?_) (fun hc1 hf => ?_)
  · exact xr_t (inj := xti) rfl (Nat.le_of_ble_eq_true rfl) rfl hf hQ (xS_new hS rfl)
  · refine xw_G (pc' := 5) (st' := [.int x1]) rfl rfl trivial ?_
    refine xw_G (pc' := 6) (st' := [.ref 160, .int x1]) rfl rfl trivial ?_
    refine xw_gr rfl (xkf (xs_k hS rfl rfl : xm_k h 160 = (0, 0))) (xs_r hS rfl) ?_
    refine xw_gr rfl (xkf (xs_k hS rfl rfl : xm_k h 182 = (3, 0))) (xs_r hS rfl) ?_
    refine xw_G (pc' := 15) (st' := [.int (xm_i h 201 2), .int x1]) rfl rfl (xkf (xs_k hS rfl rfl : xm_k h 201 = (8, 0))) ?_
    refine xj_ic_lt rfl hf (fun hc2 hf => ?_) (fun hc2 hf => ?_)
    · refine xw_G (pc' := 30) (st' := [.int x2]) rfl rfl trivial ?_
      refine xw_G (pc' := 31) (st' := [.int (0 : Int32), .int x2]) rfl rfl trivial ?_
      refine xw_G (pc' := 32) (st' := [.int (4 : Int32), .int (0 : Int32), .int x2]) rfl rfl trivial ?_
      refine xe_e hf (fun v3 h4 e5 hf => ?_) (fun q9 h10 e5 hf => ?_)
      · refine xw_S (v := none) rfl (Nat.le_of_ble_eq_true rfl) (Nat.le_of_ble_eq_true rfl) (xm_Rn_le (Nat.le_of_ble_eq_true rfl) (t_X10_requireRange  hS e5).1) ?_
        have hS := (t_X10_requireRange  hS e5).2
        show xm_W _ _ _ 35 _ [] _
        refine xw_G (pc' := 36) (st' := [.ref 160]) rfl rfl trivial ?_
        refine xw_gr rfl (xkf (xs_k hS rfl rfl : xm_k h4 160 = (0, 0))) (xs_r hS rfl) ?_
        refine xw_gr rfl (xkf (xs_k hS rfl rfl : xm_k h4 182 = (3, 0))) (xs_r hS rfl) ?_
        refine xw_G (pc' := 43) (st' := [.int x1, .ref 209]) rfl rfl trivial ?_
        refine xw_G (pc' := 44) (st' := [.int x2, .int x1, .ref 209]) rfl rfl trivial ?_
        refine xb_e hf (fun v6 h7 e8 hf => ?_)
        refine xw_V (v := some (.int v6)) rfl rfl (xkf (xs_k hS rfl rfl : xm_k h4 209 = (5, 0))) (Nat.le_of_ble_eq_true rfl) (Nat.le_of_ble_eq_true rfl) (xm_Rn_le (Nat.le_of_ble_eq_true rfl) (t_X4_part  hS e8).1) ?_
        have hS := (t_X4_part  hS e8).2
        show xm_W _ _ _ 47 _ [.int v6] _
        exact xr_i (inj := xti) rfl rfl rfl rfl hf hQ hS
      · refine xw_SX (x := q9) rfl (Nat.le_of_ble_eq_true rfl) (Nat.le_of_ble_eq_true rfl) (xm_Rn_le (Nat.le_of_ble_eq_true rfl) (t_X10_requireRange  hS e5).1) rfl ?_
        have hS := (t_X10_requireRange  hS e5).2
        exact xr_x (inj := xti) rfl hf hQ hS
    · exact xr_t (inj := xti) rfl (Nat.le_of_ble_eq_true rfl) rfl hf hQ (xS_new hS rfl)
def f_L_impression (x1 : Int32) (x2 : Int32) (h : xm_H) : Option (Int32 × xm_H) := (xe (f_X10_impression x1 x2 h) (fun v1 h2 => (xl (xm_sl h2 316 0 (Int32.toInt64 v1)) fun h4 => (some ((0 : Int32), h4)))) (fun q6 h7 => (if (q6).1 = 14 then (some ((1 : Int32), h7)) else (if (q6).1 = 15 then (some ((2 : Int32), h7)) else none))))
theorem t_L_impression {ρ : Nat} {δ : Nat} {x1 : Int32} {x2 : Int32} {h : xm_H} {w : Int32 × xm_H}  (hS : xS ρ δ h) (hf : f_L_impression x1 x2 h = some w) : xm_Rn xX 3 354 [.ref 160, .int x1, .int x2, .ref 316] h (xji w.1) w.2 ∧ xS ρ δ w.2 := by
  refine xt_mk (φ := fun h => xS ρ δ h) (M := xM_L_impression) (ls := [some (.ref 160), some (.int x1), some (.int x2), some (.ref 316), none]) rfl (Nat.le_of_ble_eq_true rfl) rfl (fun Q hQ => ?_)
  unfold f_L_impression at hf
  refine xw_G (pc' := 1) (st' := [.ref 316]) rfl rfl trivial ?_
  refine xw_G (pc' := 2) (st' := [.int (0 : Int32), .ref 316]) rfl rfl trivial ?_
  refine xw_G (pc' := 3) (st' := [.ref 160, .int (0 : Int32), .ref 316]) rfl rfl trivial ?_
  refine xw_G (pc' := 4) (st' := [.int x1, .ref 160, .int (0 : Int32), .ref 316]) rfl rfl trivial ?_
  refine xw_G (pc' := 5) (st' := [.int x2, .int x1, .ref 160, .int (0 : Int32), .ref 316]) rfl rfl trivial ?_
  refine xe_e hf (fun v1 h2 e3 hf => ?_) (fun q6 h7 e3 hf => ?_)
  · refine xw_V (v := some (.int v1)) rfl rfl (xkf (xs_k hS rfl rfl : xm_k h 160 = (0, 0))) (Nat.le_of_ble_eq_true rfl) (Nat.le_of_ble_eq_true rfl) (xm_Rn_le (Nat.le_of_ble_eq_true rfl) (t_X10_impression  hS e3).1) ?_
    have hS := (t_X10_impression  hS e3).2
    show xm_W _ _ _ 8 _ [.int v1, .int (0 : Int32), .ref 316] _
    refine xw_G (pc' := 9) (st' := [.long (Int32.toInt64 v1), .int (0 : Int32), .ref 316]) rfl rfl trivial ?_
    refine xa_l rfl (xkf (xs_k hS rfl rfl : xm_k h2 316 = (104, 1))) (xkn (xs_k hS rfl rfl : xm_k h2 316 = (104, 1))) (by decide : xin (0 : Int32) 1) (Nat.le_of_ble_eq_true rfl) hf (fun h4 e5 hf => ?_)
    have hS := xS_sl hS e5
    refine xw_G (pc' := 21) (st' := []) rfl rfl trivial ?_
    refine xw_G (pc' := 22) (st' := [.int (0 : Int32)]) rfl rfl trivial ?_
    exact xr_i (inj := xji) rfl rfl rfl rfl hf hQ hS
  · by_cases hc8 : (q6).1 = 14
    · rw [if_pos hc8] at hf
      refine xw_VH (x := q6) (p := 13) rfl rfl (xkf (xs_k hS rfl rfl : xm_k h 160 = (0, 0))) (Nat.le_of_ble_eq_true rfl) (Nat.le_of_ble_eq_true rfl) (xm_Rn_le (Nat.le_of_ble_eq_true rfl) (t_X10_impression  hS e3).1) (by rw [hc8]; rfl) ?_
      have hS := (t_X10_impression  hS e3).2
      refine xw_G (pc' := 15) (ls' := [some (.ref 160), some (.int x1), some (.int x2), some (.ref 316), some (.ref ((q6).2))]) (st' := []) rfl rfl (Nat.le_of_ble_eq_true rfl) ?_
      refine xw_G (pc' := 16) (st' := [.int (1 : Int32)]) rfl rfl trivial ?_
      exact xr_i (inj := xji) rfl rfl rfl rfl hf hQ hS
    · rw [if_neg hc8] at hf
      by_cases hc8 : (q6).1 = 15
      · rw [if_pos hc8] at hf
        refine xw_VH (x := q6) (p := 17) rfl rfl (xkf (xs_k hS rfl rfl : xm_k h 160 = (0, 0))) (Nat.le_of_ble_eq_true rfl) (Nat.le_of_ble_eq_true rfl) (xm_Rn_le (Nat.le_of_ble_eq_true rfl) (t_X10_impression  hS e3).1) (by rw [hc8]; rfl) ?_
        have hS := (t_X10_impression  hS e3).2
        refine xw_G (pc' := 19) (ls' := [some (.ref 160), some (.int x1), some (.int x2), some (.ref 316), some (.ref ((q6).2))]) (st' := []) rfl rfl (Nat.le_of_ble_eq_true rfl) ?_
        refine xw_G (pc' := 20) (st' := [.int (2 : Int32)]) rfl rfl trivial ?_
        exact xr_i (inj := xji) rfl rfl rfl rfl hf hQ hS
      · rw [if_neg hc8] at hf
        exact (xn_e hf).elim
def f_X11_impression (x1 : Int32) (x2 : Int32) (h : xm_H) : Option (Int32 × xm_H) := (xb (f_X11_between (Int32.toInt64 x1) (0 : Int64) (Int32.toInt64 ((xm_i h 303 1) - (1 : Int32))) h) fun v1 h2 => (xb (f_X11_between (Int32.toInt64 x2) (0 : Int64) (4 : Int64) h2) fun v4 h5 => (xb (f_X11_good_ v1 v4 h5) fun v7 h8 => (if v7 = 0 then (some ((0 : Int32), h8)) else (xb (f_X11_impressionAt x1 x2 h8) fun v11 h12 => (some (v11, h12)))))))
theorem t_X11_impression {ρ : Nat} {δ : Nat} {x1 : Int32} {x2 : Int32} {h : xm_H} {w : Int32 × xm_H}  (hS : xS ρ δ h) (hf : f_X11_impression x1 x2 h = some w) : xm_Rn xX 2 230 [.ref 302, .int x1, .int x2] h (xji w.1) w.2 ∧ xS ρ δ w.2 := by
  refine xt_mk (φ := fun h => xS ρ δ h) (M := xM_X11_impression) (ls := [some (.ref 302), some (.int x1), some (.int x2)]) rfl (Nat.le_of_ble_eq_true rfl) rfl (fun Q hQ => ?_)
  unfold f_X11_impression at hf
  refine xw_G (pc' := 1) (st' := [.ref 302]) rfl rfl trivial ?_
  refine xw_G (pc' := 2) (st' := [.int x1, .ref 302]) rfl rfl trivial ?_
  refine xw_G (pc' := 3) (st' := [.long (Int32.toInt64 x1), .ref 302]) rfl rfl trivial ?_
  refine xw_G (pc' := 4) (st' := [.long (0 : Int64), .long (Int32.toInt64 x1), .ref 302]) rfl rfl trivial ?_
  refine xw_G (pc' := 5) (st' := [.ref 302, .long (0 : Int64), .long (Int32.toInt64 x1), .ref 302]) rfl rfl trivial ?_
  refine xw_gr rfl (xkf (xs_k hS rfl rfl : xm_k h 302 = (11, 0))) (xs_r hS rfl) ?_
  refine xw_G (pc' := 9) (st' := [.int (1 : Int32), .ref 303, .long (0 : Int64), .long (Int32.toInt64 x1), .ref 302]) rfl rfl trivial ?_
  refine xa_ld (t := 100) (τ := 0) (v := .int (xm_i h 303 1)) rfl rfl (xkf (xs_k hS rfl rfl : xm_k h 303 = (100, 2217))) (xkn (xs_k hS rfl rfl : xm_k h 303 = (100, 2217))) (by decide : xin (1 : Int32) 2217) rfl ?_
  refine xw_G (pc' := 11) (st' := [.int (1 : Int32), .int (xm_i h 303 1), .long (0 : Int64), .long (Int32.toInt64 x1), .ref 302]) rfl rfl trivial ?_
  refine xw_G (pc' := 12) (st' := [.int ((xm_i h 303 1) - (1 : Int32)), .long (0 : Int64), .long (Int32.toInt64 x1), .ref 302]) rfl rfl trivial ?_
  refine xw_G (pc' := 13) (st' := [.long (Int32.toInt64 ((xm_i h 303 1) - (1 : Int32))), .long (0 : Int64), .long (Int32.toInt64 x1), .ref 302]) rfl rfl trivial ?_
  refine xb_e hf (fun v1 h2 e3 hf => ?_)
  refine xw_S (v := some (.int v1)) rfl (Nat.le_of_ble_eq_true rfl) (Nat.le_of_ble_eq_true rfl) (xm_Rn_le (Nat.le_of_ble_eq_true rfl) (t_X11_between  hS e3).1) ?_
  have hS := (t_X11_between  hS e3).2
  show xm_W _ _ _ 16 _ [.int v1, .ref 302] _
  refine xw_G (pc' := 17) (st' := [.int x2, .int v1, .ref 302]) rfl rfl trivial ?_
  refine xw_G (pc' := 18) (st' := [.long (Int32.toInt64 x2), .int v1, .ref 302]) rfl rfl trivial ?_
  refine xw_G (pc' := 19) (st' := [.long (0 : Int64), .long (Int32.toInt64 x2), .int v1, .ref 302]) rfl rfl trivial ?_
  refine xw_G (pc' := 22) (st' := [.long (4 : Int64), .long (0 : Int64), .long (Int32.toInt64 x2), .int v1, .ref 302]) rfl rfl trivial ?_
  refine xb_e hf (fun v4 h5 e6 hf => ?_)
  refine xw_S (v := some (.int v4)) rfl (Nat.le_of_ble_eq_true rfl) (Nat.le_of_ble_eq_true rfl) (xm_Rn_le (Nat.le_of_ble_eq_true rfl) (t_X11_between  hS e6).1) ?_
  have hS := (t_X11_between  hS e6).2
  show xm_W _ _ _ 25 _ [.int v4, .int v1, .ref 302] _
  refine xb_e hf (fun v7 h8 e9 hf => ?_)
  refine xw_V (v := some (.int v7)) rfl rfl (xkf (xs_k hS rfl rfl : xm_k h5 302 = (11, 0))) (Nat.le_of_ble_eq_true rfl) (Nat.le_of_ble_eq_true rfl) (xm_Rn_le (Nat.le_of_ble_eq_true rfl) (t_X11_good_  hS e9).1) ?_
  have hS := (t_X11_good_  hS e9).2
  show xm_W _ _ _ 28 _ [.int v7] _
  refine xj_if_eq rfl hf (fun hc10 hf => ?_) (fun hc10 hf => ?_)
  · refine xw_G (pc' := 41) (st' := [.int (0 : Int32)]) rfl rfl trivial ?_
    exact xr_i (inj := xji) rfl rfl rfl rfl hf hQ hS
  · refine xw_G (pc' := 32) (st' := [.ref 302]) rfl rfl trivial ?_
    refine xw_G (pc' := 33) (st' := [.int x1, .ref 302]) rfl rfl trivial ?_
    refine xw_G (pc' := 34) (st' := [.int x2, .int x1, .ref 302]) rfl rfl trivial ?_
    refine xb_e hf (fun v11 h12 e13 hf => ?_)
    refine xw_V (v := some (.int v11)) rfl rfl (xkf (xs_k hS rfl rfl : xm_k h8 302 = (11, 0))) (Nat.le_of_ble_eq_true rfl) (Nat.le_of_ble_eq_true rfl) (xm_Rn_le (Nat.le_of_ble_eq_true rfl) (t_X11_impressionAt  hS e13).1) ?_
    have hS := (t_X11_impressionAt  hS e13).2
    show xm_W _ _ _ 37 _ [.int v11] _
    refine xw_G (pc' := 41) (st' := [.int v11]) rfl rfl trivial ?_
    exact xr_i (inj := xji) rfl rfl rfl rfl hf hQ hS
def f_X10_revenue (N : Nat) (h : xm_H) : Option (Int32 × xm_H) := (xb (f_X4_priceSum N (0 : Int32) (xm_i h 201 2) h) fun v1 h2 => (some (v1, h2)))
theorem t_X10_revenue {N : Nat} {ρ : Nat} {δ : Nat} {h : xm_H} {w : Int32 × xm_H}  (hS : xS ρ δ h) (hf : f_X10_revenue N h = some w) : xm_Rn xX 2 112 [.ref 160] h (xji w.1) w.2 ∧ xS ρ δ w.2 := by
  refine xt_mk (φ := fun h => xS ρ δ h) (M := xM_X10_revenue) (ls := [some (.ref 160)]) rfl (Nat.le_of_ble_eq_true rfl) rfl (fun Q hQ => ?_)
  unfold f_X10_revenue at hf
  refine xw_G (pc' := 1) (st' := [.ref 160]) rfl rfl trivial ?_
  refine xw_gr rfl (xkf (xs_k hS rfl rfl : xm_k h 160 = (0, 0))) (xs_r hS rfl) ?_
  refine xw_gr rfl (xkf (xs_k hS rfl rfl : xm_k h 182 = (3, 0))) (xs_r hS rfl) ?_
  refine xw_G (pc' := 8) (st' := [.int (0 : Int32), .ref 209]) rfl rfl trivial ?_
  refine xw_G (pc' := 9) (st' := [.ref 160, .int (0 : Int32), .ref 209]) rfl rfl trivial ?_
  refine xw_gr rfl (xkf (xs_k hS rfl rfl : xm_k h 160 = (0, 0))) (xs_r hS rfl) ?_
  refine xw_gr rfl (xkf (xs_k hS rfl rfl : xm_k h 182 = (3, 0))) (xs_r hS rfl) ?_
  refine xw_G (pc' := 18) (st' := [.int (xm_i h 201 2), .int (0 : Int32), .ref 209]) rfl rfl (xkf (xs_k hS rfl rfl : xm_k h 201 = (8, 0))) ?_
  refine xb_e hf (fun v1 h2 e3 hf => ?_)
  refine xw_V (v := some (.int v1)) rfl rfl (xkf (xs_k hS rfl rfl : xm_k h 209 = (5, 0))) (Nat.le_of_ble_eq_true rfl) (Nat.le_of_ble_eq_true rfl) (xm_Rn_le (Nat.le_of_ble_eq_true rfl) (t_X4_priceSum  hS e3).1) ?_
  have hS := (t_X4_priceSum  hS e3).2
  show xm_W _ _ _ 21 _ [.int v1] _
  exact xr_i (inj := xji) rfl rfl rfl rfl hf hQ hS
def f_X11_revenue_9B (N : Nat) (rec : Int32 → Int32 → xm_H → Option (Int32 × xm_H)) (c1 : Int32) (c2 : Int32) (h : xm_H) : Option (Int32 × xm_H) := (if c2 < (xm_i h 303 1) then (xb (f_X11_impressionAt c2 (4 : Int32) h) fun v2 h3 => (rec (c1 + v2) (c2 + (1 : Int32)) h3)) else (some (c1, h)))
def f_X11_revenue_9 (N : Nat) : Nat → Int32 → Int32 → xm_H → Option (Int32 × xm_H)
  | 0 => fun _ _ _ => none
  | n + 1 => fun c1 c2 h => f_X11_revenue_9B N (f_X11_revenue_9 N n) c1 c2 h
def f_X11_revenue (N : Nat) (h : xm_H) : Option (Int32 × xm_H) := (xl (xm_si h 302 4 (0 : Int32)) fun h1 => (f_X11_revenue_9 N N (0 : Int32) (0 : Int32) h1))
theorem tl_X11_revenue_9 {ρ : Nat} {δ : Nat} {N : Nat} {Q : xm_O → xm_H → Prop} {w : Int32 × xm_H}  (hQ : xS ρ δ w.2 → Q (xji w.1) w.2)  : ∀ (n : Nat) (c1 : Int32) (c2 : Int32) (h : xm_H), xS ρ δ h → f_X11_revenue_9 N n c1 c2 h = some w → xm_W (xm_Rn xX 1) xM_X11_revenue Q 9 [some (.ref 302), some (.int c1), some (.int c2)] [] h := by
  intro n
  induction n with
  | zero =>
    intro c1 c2 h hS hf
    exact (xn_e hf).elim
  | succ n ih =>
    intro c1 c2 h hS hf
    replace hf : f_X11_revenue_9B N (f_X11_revenue_9 N n) c1 c2 h = some w := hf
    unfold f_X11_revenue_9B at hf
    refine xw_K (pc' := 10) (ls' := [some (.ref 302), some (.int c1), some (.int c2)]) (st' := [.int c2]) rfl rfl trivial ?_
    refine xw_G (pc' := 11) (st' := [.ref 302, .int c2]) rfl rfl trivial ?_
    refine xw_gr rfl (xkf (xs_k hS rfl rfl : xm_k h 302 = (11, 0))) (xs_r hS rfl) ?_
    refine xw_G (pc' := 15) (st' := [.int (1 : Int32), .ref 303, .int c2]) rfl rfl trivial ?_
    refine xa_ld (t := 100) (τ := 0) (v := .int (xm_i h 303 1)) rfl rfl (xkf (xs_k hS rfl rfl : xm_k h 303 = (100, 2217))) (xkn (xs_k hS rfl rfl : xm_k h 303 = (100, 2217))) (by decide : xin (1 : Int32) 2217) rfl ?_
    refine xj_ic_ge rfl hf (fun hc1 hf => ?_) (fun hc1 hf => ?_)
    · refine xw_G (pc' := 20) (st' := [.int c1]) rfl rfl trivial ?_
      refine xw_G (pc' := 21) (st' := [.ref 302, .int c1]) rfl rfl trivial ?_
      refine xw_G (pc' := 22) (st' := [.int c2, .ref 302, .int c1]) rfl rfl trivial ?_
      refine xw_G (pc' := 23) (st' := [.int (4 : Int32), .int c2, .ref 302, .int c1]) rfl rfl trivial ?_
      refine xb_e hf (fun v2 h3 e4 hf => ?_)
      refine xw_V (v := some (.int v2)) rfl rfl (xkf (xs_k hS rfl rfl : xm_k h 302 = (11, 0))) (Nat.le_of_ble_eq_true rfl) (Nat.le_of_ble_eq_true rfl) (xm_Rn_le (Nat.le_of_ble_eq_true rfl) (t_X11_impressionAt  hS e4).1) ?_
      have hS := (t_X11_impressionAt  hS e4).2
      show xm_W _ _ _ 26 _ [.int v2, .int c1] _
      refine xw_G (pc' := 27) (st' := [.int (c1 + v2)]) rfl rfl trivial ?_
      refine xw_G (pc' := 28) (ls' := [some (.ref 302), some (.int (c1 + v2)), some (.int c2)]) (st' := []) rfl rfl (Nat.le_of_ble_eq_true rfl) ?_
      refine xw_G (pc' := 31) (ls' := [some (.ref 302), some (.int (c1 + v2)), some (.int (c2 + (1 : Int32)))]) (st' := []) rfl rfl (Nat.le_of_ble_eq_true rfl) ?_
      refine xw_G (pc' := 9) (st' := []) rfl rfl trivial ?_
      refine xw_M rfl rfl ?_
      exact ih _ _ _ hS hf
    · refine xw_G (pc' := 35) (st' := [.int c1]) rfl rfl trivial ?_
      exact xr_i (inj := xji) rfl rfl rfl rfl hf hQ hS
theorem t_X11_revenue {N : Nat} {ρ : Nat} {δ : Nat} {h : xm_H} {w : Int32 × xm_H}  (hS : xS ρ δ h) (hf : f_X11_revenue N h = some w) : xm_Rn xX 2 231 [.ref 302] h (xji w.1) w.2 ∧ xS ρ δ w.2 := by
  refine xt_mk (φ := fun h => xS ρ δ h) (M := xM_X11_revenue) (ls := [some (.ref 302), none, none]) rfl (Nat.le_of_ble_eq_true rfl) rfl (fun Q hQ => ?_)
  unfold f_X11_revenue at hf
  refine xw_G (pc' := 1) (st' := [.ref 302]) rfl rfl trivial ?_
  refine xw_G (pc' := 2) (st' := [.int (0 : Int32), .ref 302]) rfl rfl trivial ?_
  refine xp_i rfl (xkf (xs_k hS rfl rfl : xm_k h 302 = (11, 0))) (Nat.le_of_ble_eq_true rfl) hf (fun h1 e2 hf => ?_)
  have hS := xS_si hS e2
  refine xw_G (pc' := 6) (st' := [.int (0 : Int32)]) rfl rfl trivial ?_
  refine xw_G (pc' := 7) (ls' := [some (.ref 302), some (.int (0 : Int32)), none]) (st' := []) rfl rfl (Nat.le_of_ble_eq_true rfl) ?_
  refine xw_G (pc' := 8) (st' := [.int (0 : Int32)]) rfl rfl trivial ?_
  refine xw_G (pc' := 9) (ls' := [some (.ref 302), some (.int (0 : Int32)), some (.int (0 : Int32))]) (st' := []) rfl rfl (Nat.le_of_ble_eq_true rfl) ?_
  refine xw_M rfl rfl ?_
  refine tl_X11_revenue_9  hQ  _ _ _ _ hS hf
def f_J6_bitCount_0f7a4 (x0 : Int32) (h : xm_H) : Option (Int32 × xm_H) := (some ((((((((x0 - ((((Int32.toUInt32 x0) >>> ((Int32.toUInt32 (1 : Int32)) &&& Int32.toUInt32 31)).toInt32) &&& (1431655765 : Int32))) &&& (858993459 : Int32)) + ((((Int32.toUInt32 (x0 - ((((Int32.toUInt32 x0) >>> ((Int32.toUInt32 (1 : Int32)) &&& Int32.toUInt32 31)).toInt32) &&& (1431655765 : Int32)))) >>> ((Int32.toUInt32 (2 : Int32)) &&& Int32.toUInt32 31)).toInt32) &&& (858993459 : Int32))) + (((Int32.toUInt32 (((x0 - ((((Int32.toUInt32 x0) >>> ((Int32.toUInt32 (1 : Int32)) &&& Int32.toUInt32 31)).toInt32) &&& (1431655765 : Int32))) &&& (858993459 : Int32)) + ((((Int32.toUInt32 (x0 - ((((Int32.toUInt32 x0) >>> ((Int32.toUInt32 (1 : Int32)) &&& Int32.toUInt32 31)).toInt32) &&& (1431655765 : Int32)))) >>> ((Int32.toUInt32 (2 : Int32)) &&& Int32.toUInt32 31)).toInt32) &&& (858993459 : Int32)))) >>> ((Int32.toUInt32 (4 : Int32)) &&& Int32.toUInt32 31)).toInt32)) &&& (252645135 : Int32)) + (((Int32.toUInt32 (((((x0 - ((((Int32.toUInt32 x0) >>> ((Int32.toUInt32 (1 : Int32)) &&& Int32.toUInt32 31)).toInt32) &&& (1431655765 : Int32))) &&& (858993459 : Int32)) + ((((Int32.toUInt32 (x0 - ((((Int32.toUInt32 x0) >>> ((Int32.toUInt32 (1 : Int32)) &&& Int32.toUInt32 31)).toInt32) &&& (1431655765 : Int32)))) >>> ((Int32.toUInt32 (2 : Int32)) &&& Int32.toUInt32 31)).toInt32) &&& (858993459 : Int32))) + (((Int32.toUInt32 (((x0 - ((((Int32.toUInt32 x0) >>> ((Int32.toUInt32 (1 : Int32)) &&& Int32.toUInt32 31)).toInt32) &&& (1431655765 : Int32))) &&& (858993459 : Int32)) + ((((Int32.toUInt32 (x0 - ((((Int32.toUInt32 x0) >>> ((Int32.toUInt32 (1 : Int32)) &&& Int32.toUInt32 31)).toInt32) &&& (1431655765 : Int32)))) >>> ((Int32.toUInt32 (2 : Int32)) &&& Int32.toUInt32 31)).toInt32) &&& (858993459 : Int32)))) >>> ((Int32.toUInt32 (4 : Int32)) &&& Int32.toUInt32 31)).toInt32)) &&& (252645135 : Int32))) >>> ((Int32.toUInt32 (8 : Int32)) &&& Int32.toUInt32 31)).toInt32)) + (((Int32.toUInt32 ((((((x0 - ((((Int32.toUInt32 x0) >>> ((Int32.toUInt32 (1 : Int32)) &&& Int32.toUInt32 31)).toInt32) &&& (1431655765 : Int32))) &&& (858993459 : Int32)) + ((((Int32.toUInt32 (x0 - ((((Int32.toUInt32 x0) >>> ((Int32.toUInt32 (1 : Int32)) &&& Int32.toUInt32 31)).toInt32) &&& (1431655765 : Int32)))) >>> ((Int32.toUInt32 (2 : Int32)) &&& Int32.toUInt32 31)).toInt32) &&& (858993459 : Int32))) + (((Int32.toUInt32 (((x0 - ((((Int32.toUInt32 x0) >>> ((Int32.toUInt32 (1 : Int32)) &&& Int32.toUInt32 31)).toInt32) &&& (1431655765 : Int32))) &&& (858993459 : Int32)) + ((((Int32.toUInt32 (x0 - ((((Int32.toUInt32 x0) >>> ((Int32.toUInt32 (1 : Int32)) &&& Int32.toUInt32 31)).toInt32) &&& (1431655765 : Int32)))) >>> ((Int32.toUInt32 (2 : Int32)) &&& Int32.toUInt32 31)).toInt32) &&& (858993459 : Int32)))) >>> ((Int32.toUInt32 (4 : Int32)) &&& Int32.toUInt32 31)).toInt32)) &&& (252645135 : Int32)) + (((Int32.toUInt32 (((((x0 - ((((Int32.toUInt32 x0) >>> ((Int32.toUInt32 (1 : Int32)) &&& Int32.toUInt32 31)).toInt32) &&& (1431655765 : Int32))) &&& (858993459 : Int32)) + ((((Int32.toUInt32 (x0 - ((((Int32.toUInt32 x0) >>> ((Int32.toUInt32 (1 : Int32)) &&& Int32.toUInt32 31)).toInt32) &&& (1431655765 : Int32)))) >>> ((Int32.toUInt32 (2 : Int32)) &&& Int32.toUInt32 31)).toInt32) &&& (858993459 : Int32))) + (((Int32.toUInt32 (((x0 - ((((Int32.toUInt32 x0) >>> ((Int32.toUInt32 (1 : Int32)) &&& Int32.toUInt32 31)).toInt32) &&& (1431655765 : Int32))) &&& (858993459 : Int32)) + ((((Int32.toUInt32 (x0 - ((((Int32.toUInt32 x0) >>> ((Int32.toUInt32 (1 : Int32)) &&& Int32.toUInt32 31)).toInt32) &&& (1431655765 : Int32)))) >>> ((Int32.toUInt32 (2 : Int32)) &&& Int32.toUInt32 31)).toInt32) &&& (858993459 : Int32)))) >>> ((Int32.toUInt32 (4 : Int32)) &&& Int32.toUInt32 31)).toInt32)) &&& (252645135 : Int32))) >>> ((Int32.toUInt32 (8 : Int32)) &&& Int32.toUInt32 31)).toInt32))) >>> ((Int32.toUInt32 (16 : Int32)) &&& Int32.toUInt32 31)).toInt32)) &&& (63 : Int32), h))
theorem t_J6_bitCount_0f7a4 {ρ : Nat} {δ : Nat} {x0 : Int32} {h : xm_H} {w : Int32 × xm_H}  (hS : xS ρ δ h) (hf : f_J6_bitCount_0f7a4 x0 h = some w) : xm_Rn xX 1 269 [.int x0] h (xji w.1) w.2 ∧ xS ρ δ w.2 := by
  refine xt_mk (φ := fun h => xS ρ δ h) (M := xM_J6_bitCount_0f7a4) (ls := [some (.int x0)]) rfl (Nat.le_of_ble_eq_true rfl) rfl (fun Q hQ => ?_)
  unfold f_J6_bitCount_0f7a4 at hf
  refine xw_G (pc' := 1) (st' := [.int x0]) rfl rfl trivial ?_
  refine xw_G (pc' := 2) (st' := [.int x0, .int x0]) rfl rfl trivial ?_
  refine xw_G (pc' := 3) (st' := [.int (1 : Int32), .int x0, .int x0]) rfl rfl trivial ?_
  refine xw_G (pc' := 4) (st' := [.int (((Int32.toUInt32 x0) >>> ((Int32.toUInt32 (1 : Int32)) &&& Int32.toUInt32 31)).toInt32), .int x0]) rfl rfl trivial ?_
  refine xw_G (pc' := 7) (st' := [.int (1431655765 : Int32), .int (((Int32.toUInt32 x0) >>> ((Int32.toUInt32 (1 : Int32)) &&& Int32.toUInt32 31)).toInt32), .int x0]) rfl rfl trivial ?_
  refine xw_G (pc' := 8) (st' := [.int ((((Int32.toUInt32 x0) >>> ((Int32.toUInt32 (1 : Int32)) &&& Int32.toUInt32 31)).toInt32) &&& (1431655765 : Int32)), .int x0]) rfl rfl trivial ?_
  refine xw_G (pc' := 9) (st' := [.int (x0 - ((((Int32.toUInt32 x0) >>> ((Int32.toUInt32 (1 : Int32)) &&& Int32.toUInt32 31)).toInt32) &&& (1431655765 : Int32)))]) rfl rfl trivial ?_
  refine xw_G (pc' := 10) (ls' := [some (.int (x0 - ((((Int32.toUInt32 x0) >>> ((Int32.toUInt32 (1 : Int32)) &&& Int32.toUInt32 31)).toInt32) &&& (1431655765 : Int32))))]) (st' := []) rfl rfl (Nat.le_of_ble_eq_true rfl) ?_
  refine xw_G (pc' := 11) (st' := [.int (x0 - ((((Int32.toUInt32 x0) >>> ((Int32.toUInt32 (1 : Int32)) &&& Int32.toUInt32 31)).toInt32) &&& (1431655765 : Int32)))]) rfl rfl trivial ?_
  refine xw_G (pc' := 14) (st' := [.int (858993459 : Int32), .int (x0 - ((((Int32.toUInt32 x0) >>> ((Int32.toUInt32 (1 : Int32)) &&& Int32.toUInt32 31)).toInt32) &&& (1431655765 : Int32)))]) rfl rfl trivial ?_
  refine xw_G (pc' := 15) (st' := [.int ((x0 - ((((Int32.toUInt32 x0) >>> ((Int32.toUInt32 (1 : Int32)) &&& Int32.toUInt32 31)).toInt32) &&& (1431655765 : Int32))) &&& (858993459 : Int32))]) rfl rfl trivial ?_
  refine xw_G (pc' := 16) (st' := [.int (x0 - ((((Int32.toUInt32 x0) >>> ((Int32.toUInt32 (1 : Int32)) &&& Int32.toUInt32 31)).toInt32) &&& (1431655765 : Int32))), .int ((x0 - ((((Int32.toUInt32 x0) >>> ((Int32.toUInt32 (1 : Int32)) &&& Int32.toUInt32 31)).toInt32) &&& (1431655765 : Int32))) &&& (858993459 : Int32))]) rfl rfl trivial ?_
  refine xw_G (pc' := 17) (st' := [.int (2 : Int32), .int (x0 - ((((Int32.toUInt32 x0) >>> ((Int32.toUInt32 (1 : Int32)) &&& Int32.toUInt32 31)).toInt32) &&& (1431655765 : Int32))), .int ((x0 - ((((Int32.toUInt32 x0) >>> ((Int32.toUInt32 (1 : Int32)) &&& Int32.toUInt32 31)).toInt32) &&& (1431655765 : Int32))) &&& (858993459 : Int32))]) rfl rfl trivial ?_
  refine xw_G (pc' := 18) (st' := [.int (((Int32.toUInt32 (x0 - ((((Int32.toUInt32 x0) >>> ((Int32.toUInt32 (1 : Int32)) &&& Int32.toUInt32 31)).toInt32) &&& (1431655765 : Int32)))) >>> ((Int32.toUInt32 (2 : Int32)) &&& Int32.toUInt32 31)).toInt32), .int ((x0 - ((((Int32.toUInt32 x0) >>> ((Int32.toUInt32 (1 : Int32)) &&& Int32.toUInt32 31)).toInt32) &&& (1431655765 : Int32))) &&& (858993459 : Int32))]) rfl rfl trivial ?_
  refine xw_G (pc' := 21) (st' := [.int (858993459 : Int32), .int (((Int32.toUInt32 (x0 - ((((Int32.toUInt32 x0) >>> ((Int32.toUInt32 (1 : Int32)) &&& Int32.toUInt32 31)).toInt32) &&& (1431655765 : Int32)))) >>> ((Int32.toUInt32 (2 : Int32)) &&& Int32.toUInt32 31)).toInt32), .int ((x0 - ((((Int32.toUInt32 x0) >>> ((Int32.toUInt32 (1 : Int32)) &&& Int32.toUInt32 31)).toInt32) &&& (1431655765 : Int32))) &&& (858993459 : Int32))]) rfl rfl trivial ?_
  refine xw_G (pc' := 22) (st' := [.int ((((Int32.toUInt32 (x0 - ((((Int32.toUInt32 x0) >>> ((Int32.toUInt32 (1 : Int32)) &&& Int32.toUInt32 31)).toInt32) &&& (1431655765 : Int32)))) >>> ((Int32.toUInt32 (2 : Int32)) &&& Int32.toUInt32 31)).toInt32) &&& (858993459 : Int32)), .int ((x0 - ((((Int32.toUInt32 x0) >>> ((Int32.toUInt32 (1 : Int32)) &&& Int32.toUInt32 31)).toInt32) &&& (1431655765 : Int32))) &&& (858993459 : Int32))]) rfl rfl trivial ?_
  refine xw_G (pc' := 23) (st' := [.int (((x0 - ((((Int32.toUInt32 x0) >>> ((Int32.toUInt32 (1 : Int32)) &&& Int32.toUInt32 31)).toInt32) &&& (1431655765 : Int32))) &&& (858993459 : Int32)) + ((((Int32.toUInt32 (x0 - ((((Int32.toUInt32 x0) >>> ((Int32.toUInt32 (1 : Int32)) &&& Int32.toUInt32 31)).toInt32) &&& (1431655765 : Int32)))) >>> ((Int32.toUInt32 (2 : Int32)) &&& Int32.toUInt32 31)).toInt32) &&& (858993459 : Int32)))]) rfl rfl trivial ?_
  refine xw_G (pc' := 24) (ls' := [some (.int (((x0 - ((((Int32.toUInt32 x0) >>> ((Int32.toUInt32 (1 : Int32)) &&& Int32.toUInt32 31)).toInt32) &&& (1431655765 : Int32))) &&& (858993459 : Int32)) + ((((Int32.toUInt32 (x0 - ((((Int32.toUInt32 x0) >>> ((Int32.toUInt32 (1 : Int32)) &&& Int32.toUInt32 31)).toInt32) &&& (1431655765 : Int32)))) >>> ((Int32.toUInt32 (2 : Int32)) &&& Int32.toUInt32 31)).toInt32) &&& (858993459 : Int32))))]) (st' := []) rfl rfl (Nat.le_of_ble_eq_true rfl) ?_
  refine xw_G (pc' := 25) (st' := [.int (((x0 - ((((Int32.toUInt32 x0) >>> ((Int32.toUInt32 (1 : Int32)) &&& Int32.toUInt32 31)).toInt32) &&& (1431655765 : Int32))) &&& (858993459 : Int32)) + ((((Int32.toUInt32 (x0 - ((((Int32.toUInt32 x0) >>> ((Int32.toUInt32 (1 : Int32)) &&& Int32.toUInt32 31)).toInt32) &&& (1431655765 : Int32)))) >>> ((Int32.toUInt32 (2 : Int32)) &&& Int32.toUInt32 31)).toInt32) &&& (858993459 : Int32)))]) rfl rfl trivial ?_
  refine xw_G (pc' := 26) (st' := [.int (((x0 - ((((Int32.toUInt32 x0) >>> ((Int32.toUInt32 (1 : Int32)) &&& Int32.toUInt32 31)).toInt32) &&& (1431655765 : Int32))) &&& (858993459 : Int32)) + ((((Int32.toUInt32 (x0 - ((((Int32.toUInt32 x0) >>> ((Int32.toUInt32 (1 : Int32)) &&& Int32.toUInt32 31)).toInt32) &&& (1431655765 : Int32)))) >>> ((Int32.toUInt32 (2 : Int32)) &&& Int32.toUInt32 31)).toInt32) &&& (858993459 : Int32))), .int (((x0 - ((((Int32.toUInt32 x0) >>> ((Int32.toUInt32 (1 : Int32)) &&& Int32.toUInt32 31)).toInt32) &&& (1431655765 : Int32))) &&& (858993459 : Int32)) + ((((Int32.toUInt32 (x0 - ((((Int32.toUInt32 x0) >>> ((Int32.toUInt32 (1 : Int32)) &&& Int32.toUInt32 31)).toInt32) &&& (1431655765 : Int32)))) >>> ((Int32.toUInt32 (2 : Int32)) &&& Int32.toUInt32 31)).toInt32) &&& (858993459 : Int32)))]) rfl rfl trivial ?_
  refine xw_G (pc' := 27) (st' := [.int (4 : Int32), .int (((x0 - ((((Int32.toUInt32 x0) >>> ((Int32.toUInt32 (1 : Int32)) &&& Int32.toUInt32 31)).toInt32) &&& (1431655765 : Int32))) &&& (858993459 : Int32)) + ((((Int32.toUInt32 (x0 - ((((Int32.toUInt32 x0) >>> ((Int32.toUInt32 (1 : Int32)) &&& Int32.toUInt32 31)).toInt32) &&& (1431655765 : Int32)))) >>> ((Int32.toUInt32 (2 : Int32)) &&& Int32.toUInt32 31)).toInt32) &&& (858993459 : Int32))), .int (((x0 - ((((Int32.toUInt32 x0) >>> ((Int32.toUInt32 (1 : Int32)) &&& Int32.toUInt32 31)).toInt32) &&& (1431655765 : Int32))) &&& (858993459 : Int32)) + ((((Int32.toUInt32 (x0 - ((((Int32.toUInt32 x0) >>> ((Int32.toUInt32 (1 : Int32)) &&& Int32.toUInt32 31)).toInt32) &&& (1431655765 : Int32)))) >>> ((Int32.toUInt32 (2 : Int32)) &&& Int32.toUInt32 31)).toInt32) &&& (858993459 : Int32)))]) rfl rfl trivial ?_
  refine xw_G (pc' := 28) (st' := [.int (((Int32.toUInt32 (((x0 - ((((Int32.toUInt32 x0) >>> ((Int32.toUInt32 (1 : Int32)) &&& Int32.toUInt32 31)).toInt32) &&& (1431655765 : Int32))) &&& (858993459 : Int32)) + ((((Int32.toUInt32 (x0 - ((((Int32.toUInt32 x0) >>> ((Int32.toUInt32 (1 : Int32)) &&& Int32.toUInt32 31)).toInt32) &&& (1431655765 : Int32)))) >>> ((Int32.toUInt32 (2 : Int32)) &&& Int32.toUInt32 31)).toInt32) &&& (858993459 : Int32)))) >>> ((Int32.toUInt32 (4 : Int32)) &&& Int32.toUInt32 31)).toInt32), .int (((x0 - ((((Int32.toUInt32 x0) >>> ((Int32.toUInt32 (1 : Int32)) &&& Int32.toUInt32 31)).toInt32) &&& (1431655765 : Int32))) &&& (858993459 : Int32)) + ((((Int32.toUInt32 (x0 - ((((Int32.toUInt32 x0) >>> ((Int32.toUInt32 (1 : Int32)) &&& Int32.toUInt32 31)).toInt32) &&& (1431655765 : Int32)))) >>> ((Int32.toUInt32 (2 : Int32)) &&& Int32.toUInt32 31)).toInt32) &&& (858993459 : Int32)))]) rfl rfl trivial ?_
  refine xw_G (pc' := 29) (st' := [.int ((((x0 - ((((Int32.toUInt32 x0) >>> ((Int32.toUInt32 (1 : Int32)) &&& Int32.toUInt32 31)).toInt32) &&& (1431655765 : Int32))) &&& (858993459 : Int32)) + ((((Int32.toUInt32 (x0 - ((((Int32.toUInt32 x0) >>> ((Int32.toUInt32 (1 : Int32)) &&& Int32.toUInt32 31)).toInt32) &&& (1431655765 : Int32)))) >>> ((Int32.toUInt32 (2 : Int32)) &&& Int32.toUInt32 31)).toInt32) &&& (858993459 : Int32))) + (((Int32.toUInt32 (((x0 - ((((Int32.toUInt32 x0) >>> ((Int32.toUInt32 (1 : Int32)) &&& Int32.toUInt32 31)).toInt32) &&& (1431655765 : Int32))) &&& (858993459 : Int32)) + ((((Int32.toUInt32 (x0 - ((((Int32.toUInt32 x0) >>> ((Int32.toUInt32 (1 : Int32)) &&& Int32.toUInt32 31)).toInt32) &&& (1431655765 : Int32)))) >>> ((Int32.toUInt32 (2 : Int32)) &&& Int32.toUInt32 31)).toInt32) &&& (858993459 : Int32)))) >>> ((Int32.toUInt32 (4 : Int32)) &&& Int32.toUInt32 31)).toInt32))]) rfl rfl trivial ?_
  refine xw_G (pc' := 32) (st' := [.int (252645135 : Int32), .int ((((x0 - ((((Int32.toUInt32 x0) >>> ((Int32.toUInt32 (1 : Int32)) &&& Int32.toUInt32 31)).toInt32) &&& (1431655765 : Int32))) &&& (858993459 : Int32)) + ((((Int32.toUInt32 (x0 - ((((Int32.toUInt32 x0) >>> ((Int32.toUInt32 (1 : Int32)) &&& Int32.toUInt32 31)).toInt32) &&& (1431655765 : Int32)))) >>> ((Int32.toUInt32 (2 : Int32)) &&& Int32.toUInt32 31)).toInt32) &&& (858993459 : Int32))) + (((Int32.toUInt32 (((x0 - ((((Int32.toUInt32 x0) >>> ((Int32.toUInt32 (1 : Int32)) &&& Int32.toUInt32 31)).toInt32) &&& (1431655765 : Int32))) &&& (858993459 : Int32)) + ((((Int32.toUInt32 (x0 - ((((Int32.toUInt32 x0) >>> ((Int32.toUInt32 (1 : Int32)) &&& Int32.toUInt32 31)).toInt32) &&& (1431655765 : Int32)))) >>> ((Int32.toUInt32 (2 : Int32)) &&& Int32.toUInt32 31)).toInt32) &&& (858993459 : Int32)))) >>> ((Int32.toUInt32 (4 : Int32)) &&& Int32.toUInt32 31)).toInt32))]) rfl rfl trivial ?_
  refine xw_G (pc' := 33) (st' := [.int (((((x0 - ((((Int32.toUInt32 x0) >>> ((Int32.toUInt32 (1 : Int32)) &&& Int32.toUInt32 31)).toInt32) &&& (1431655765 : Int32))) &&& (858993459 : Int32)) + ((((Int32.toUInt32 (x0 - ((((Int32.toUInt32 x0) >>> ((Int32.toUInt32 (1 : Int32)) &&& Int32.toUInt32 31)).toInt32) &&& (1431655765 : Int32)))) >>> ((Int32.toUInt32 (2 : Int32)) &&& Int32.toUInt32 31)).toInt32) &&& (858993459 : Int32))) + (((Int32.toUInt32 (((x0 - ((((Int32.toUInt32 x0) >>> ((Int32.toUInt32 (1 : Int32)) &&& Int32.toUInt32 31)).toInt32) &&& (1431655765 : Int32))) &&& (858993459 : Int32)) + ((((Int32.toUInt32 (x0 - ((((Int32.toUInt32 x0) >>> ((Int32.toUInt32 (1 : Int32)) &&& Int32.toUInt32 31)).toInt32) &&& (1431655765 : Int32)))) >>> ((Int32.toUInt32 (2 : Int32)) &&& Int32.toUInt32 31)).toInt32) &&& (858993459 : Int32)))) >>> ((Int32.toUInt32 (4 : Int32)) &&& Int32.toUInt32 31)).toInt32)) &&& (252645135 : Int32))]) rfl rfl trivial ?_
  refine xw_G (pc' := 34) (ls' := [some (.int (((((x0 - ((((Int32.toUInt32 x0) >>> ((Int32.toUInt32 (1 : Int32)) &&& Int32.toUInt32 31)).toInt32) &&& (1431655765 : Int32))) &&& (858993459 : Int32)) + ((((Int32.toUInt32 (x0 - ((((Int32.toUInt32 x0) >>> ((Int32.toUInt32 (1 : Int32)) &&& Int32.toUInt32 31)).toInt32) &&& (1431655765 : Int32)))) >>> ((Int32.toUInt32 (2 : Int32)) &&& Int32.toUInt32 31)).toInt32) &&& (858993459 : Int32))) + (((Int32.toUInt32 (((x0 - ((((Int32.toUInt32 x0) >>> ((Int32.toUInt32 (1 : Int32)) &&& Int32.toUInt32 31)).toInt32) &&& (1431655765 : Int32))) &&& (858993459 : Int32)) + ((((Int32.toUInt32 (x0 - ((((Int32.toUInt32 x0) >>> ((Int32.toUInt32 (1 : Int32)) &&& Int32.toUInt32 31)).toInt32) &&& (1431655765 : Int32)))) >>> ((Int32.toUInt32 (2 : Int32)) &&& Int32.toUInt32 31)).toInt32) &&& (858993459 : Int32)))) >>> ((Int32.toUInt32 (4 : Int32)) &&& Int32.toUInt32 31)).toInt32)) &&& (252645135 : Int32)))]) (st' := []) rfl rfl (Nat.le_of_ble_eq_true rfl) ?_
  refine xw_G (pc' := 35) (st' := [.int (((((x0 - ((((Int32.toUInt32 x0) >>> ((Int32.toUInt32 (1 : Int32)) &&& Int32.toUInt32 31)).toInt32) &&& (1431655765 : Int32))) &&& (858993459 : Int32)) + ((((Int32.toUInt32 (x0 - ((((Int32.toUInt32 x0) >>> ((Int32.toUInt32 (1 : Int32)) &&& Int32.toUInt32 31)).toInt32) &&& (1431655765 : Int32)))) >>> ((Int32.toUInt32 (2 : Int32)) &&& Int32.toUInt32 31)).toInt32) &&& (858993459 : Int32))) + (((Int32.toUInt32 (((x0 - ((((Int32.toUInt32 x0) >>> ((Int32.toUInt32 (1 : Int32)) &&& Int32.toUInt32 31)).toInt32) &&& (1431655765 : Int32))) &&& (858993459 : Int32)) + ((((Int32.toUInt32 (x0 - ((((Int32.toUInt32 x0) >>> ((Int32.toUInt32 (1 : Int32)) &&& Int32.toUInt32 31)).toInt32) &&& (1431655765 : Int32)))) >>> ((Int32.toUInt32 (2 : Int32)) &&& Int32.toUInt32 31)).toInt32) &&& (858993459 : Int32)))) >>> ((Int32.toUInt32 (4 : Int32)) &&& Int32.toUInt32 31)).toInt32)) &&& (252645135 : Int32))]) rfl rfl trivial ?_
  refine xw_G (pc' := 36) (st' := [.int (((((x0 - ((((Int32.toUInt32 x0) >>> ((Int32.toUInt32 (1 : Int32)) &&& Int32.toUInt32 31)).toInt32) &&& (1431655765 : Int32))) &&& (858993459 : Int32)) + ((((Int32.toUInt32 (x0 - ((((Int32.toUInt32 x0) >>> ((Int32.toUInt32 (1 : Int32)) &&& Int32.toUInt32 31)).toInt32) &&& (1431655765 : Int32)))) >>> ((Int32.toUInt32 (2 : Int32)) &&& Int32.toUInt32 31)).toInt32) &&& (858993459 : Int32))) + (((Int32.toUInt32 (((x0 - ((((Int32.toUInt32 x0) >>> ((Int32.toUInt32 (1 : Int32)) &&& Int32.toUInt32 31)).toInt32) &&& (1431655765 : Int32))) &&& (858993459 : Int32)) + ((((Int32.toUInt32 (x0 - ((((Int32.toUInt32 x0) >>> ((Int32.toUInt32 (1 : Int32)) &&& Int32.toUInt32 31)).toInt32) &&& (1431655765 : Int32)))) >>> ((Int32.toUInt32 (2 : Int32)) &&& Int32.toUInt32 31)).toInt32) &&& (858993459 : Int32)))) >>> ((Int32.toUInt32 (4 : Int32)) &&& Int32.toUInt32 31)).toInt32)) &&& (252645135 : Int32)), .int (((((x0 - ((((Int32.toUInt32 x0) >>> ((Int32.toUInt32 (1 : Int32)) &&& Int32.toUInt32 31)).toInt32) &&& (1431655765 : Int32))) &&& (858993459 : Int32)) + ((((Int32.toUInt32 (x0 - ((((Int32.toUInt32 x0) >>> ((Int32.toUInt32 (1 : Int32)) &&& Int32.toUInt32 31)).toInt32) &&& (1431655765 : Int32)))) >>> ((Int32.toUInt32 (2 : Int32)) &&& Int32.toUInt32 31)).toInt32) &&& (858993459 : Int32))) + (((Int32.toUInt32 (((x0 - ((((Int32.toUInt32 x0) >>> ((Int32.toUInt32 (1 : Int32)) &&& Int32.toUInt32 31)).toInt32) &&& (1431655765 : Int32))) &&& (858993459 : Int32)) + ((((Int32.toUInt32 (x0 - ((((Int32.toUInt32 x0) >>> ((Int32.toUInt32 (1 : Int32)) &&& Int32.toUInt32 31)).toInt32) &&& (1431655765 : Int32)))) >>> ((Int32.toUInt32 (2 : Int32)) &&& Int32.toUInt32 31)).toInt32) &&& (858993459 : Int32)))) >>> ((Int32.toUInt32 (4 : Int32)) &&& Int32.toUInt32 31)).toInt32)) &&& (252645135 : Int32))]) rfl rfl trivial ?_
  refine xw_G (pc' := 38) (st' := [.int (8 : Int32), .int (((((x0 - ((((Int32.toUInt32 x0) >>> ((Int32.toUInt32 (1 : Int32)) &&& Int32.toUInt32 31)).toInt32) &&& (1431655765 : Int32))) &&& (858993459 : Int32)) + ((((Int32.toUInt32 (x0 - ((((Int32.toUInt32 x0) >>> ((Int32.toUInt32 (1 : Int32)) &&& Int32.toUInt32 31)).toInt32) &&& (1431655765 : Int32)))) >>> ((Int32.toUInt32 (2 : Int32)) &&& Int32.toUInt32 31)).toInt32) &&& (858993459 : Int32))) + (((Int32.toUInt32 (((x0 - ((((Int32.toUInt32 x0) >>> ((Int32.toUInt32 (1 : Int32)) &&& Int32.toUInt32 31)).toInt32) &&& (1431655765 : Int32))) &&& (858993459 : Int32)) + ((((Int32.toUInt32 (x0 - ((((Int32.toUInt32 x0) >>> ((Int32.toUInt32 (1 : Int32)) &&& Int32.toUInt32 31)).toInt32) &&& (1431655765 : Int32)))) >>> ((Int32.toUInt32 (2 : Int32)) &&& Int32.toUInt32 31)).toInt32) &&& (858993459 : Int32)))) >>> ((Int32.toUInt32 (4 : Int32)) &&& Int32.toUInt32 31)).toInt32)) &&& (252645135 : Int32)), .int (((((x0 - ((((Int32.toUInt32 x0) >>> ((Int32.toUInt32 (1 : Int32)) &&& Int32.toUInt32 31)).toInt32) &&& (1431655765 : Int32))) &&& (858993459 : Int32)) + ((((Int32.toUInt32 (x0 - ((((Int32.toUInt32 x0) >>> ((Int32.toUInt32 (1 : Int32)) &&& Int32.toUInt32 31)).toInt32) &&& (1431655765 : Int32)))) >>> ((Int32.toUInt32 (2 : Int32)) &&& Int32.toUInt32 31)).toInt32) &&& (858993459 : Int32))) + (((Int32.toUInt32 (((x0 - ((((Int32.toUInt32 x0) >>> ((Int32.toUInt32 (1 : Int32)) &&& Int32.toUInt32 31)).toInt32) &&& (1431655765 : Int32))) &&& (858993459 : Int32)) + ((((Int32.toUInt32 (x0 - ((((Int32.toUInt32 x0) >>> ((Int32.toUInt32 (1 : Int32)) &&& Int32.toUInt32 31)).toInt32) &&& (1431655765 : Int32)))) >>> ((Int32.toUInt32 (2 : Int32)) &&& Int32.toUInt32 31)).toInt32) &&& (858993459 : Int32)))) >>> ((Int32.toUInt32 (4 : Int32)) &&& Int32.toUInt32 31)).toInt32)) &&& (252645135 : Int32))]) rfl rfl trivial ?_
  refine xw_G (pc' := 39) (st' := [.int (((Int32.toUInt32 (((((x0 - ((((Int32.toUInt32 x0) >>> ((Int32.toUInt32 (1 : Int32)) &&& Int32.toUInt32 31)).toInt32) &&& (1431655765 : Int32))) &&& (858993459 : Int32)) + ((((Int32.toUInt32 (x0 - ((((Int32.toUInt32 x0) >>> ((Int32.toUInt32 (1 : Int32)) &&& Int32.toUInt32 31)).toInt32) &&& (1431655765 : Int32)))) >>> ((Int32.toUInt32 (2 : Int32)) &&& Int32.toUInt32 31)).toInt32) &&& (858993459 : Int32))) + (((Int32.toUInt32 (((x0 - ((((Int32.toUInt32 x0) >>> ((Int32.toUInt32 (1 : Int32)) &&& Int32.toUInt32 31)).toInt32) &&& (1431655765 : Int32))) &&& (858993459 : Int32)) + ((((Int32.toUInt32 (x0 - ((((Int32.toUInt32 x0) >>> ((Int32.toUInt32 (1 : Int32)) &&& Int32.toUInt32 31)).toInt32) &&& (1431655765 : Int32)))) >>> ((Int32.toUInt32 (2 : Int32)) &&& Int32.toUInt32 31)).toInt32) &&& (858993459 : Int32)))) >>> ((Int32.toUInt32 (4 : Int32)) &&& Int32.toUInt32 31)).toInt32)) &&& (252645135 : Int32))) >>> ((Int32.toUInt32 (8 : Int32)) &&& Int32.toUInt32 31)).toInt32), .int (((((x0 - ((((Int32.toUInt32 x0) >>> ((Int32.toUInt32 (1 : Int32)) &&& Int32.toUInt32 31)).toInt32) &&& (1431655765 : Int32))) &&& (858993459 : Int32)) + ((((Int32.toUInt32 (x0 - ((((Int32.toUInt32 x0) >>> ((Int32.toUInt32 (1 : Int32)) &&& Int32.toUInt32 31)).toInt32) &&& (1431655765 : Int32)))) >>> ((Int32.toUInt32 (2 : Int32)) &&& Int32.toUInt32 31)).toInt32) &&& (858993459 : Int32))) + (((Int32.toUInt32 (((x0 - ((((Int32.toUInt32 x0) >>> ((Int32.toUInt32 (1 : Int32)) &&& Int32.toUInt32 31)).toInt32) &&& (1431655765 : Int32))) &&& (858993459 : Int32)) + ((((Int32.toUInt32 (x0 - ((((Int32.toUInt32 x0) >>> ((Int32.toUInt32 (1 : Int32)) &&& Int32.toUInt32 31)).toInt32) &&& (1431655765 : Int32)))) >>> ((Int32.toUInt32 (2 : Int32)) &&& Int32.toUInt32 31)).toInt32) &&& (858993459 : Int32)))) >>> ((Int32.toUInt32 (4 : Int32)) &&& Int32.toUInt32 31)).toInt32)) &&& (252645135 : Int32))]) rfl rfl trivial ?_
  refine xw_G (pc' := 40) (st' := [.int ((((((x0 - ((((Int32.toUInt32 x0) >>> ((Int32.toUInt32 (1 : Int32)) &&& Int32.toUInt32 31)).toInt32) &&& (1431655765 : Int32))) &&& (858993459 : Int32)) + ((((Int32.toUInt32 (x0 - ((((Int32.toUInt32 x0) >>> ((Int32.toUInt32 (1 : Int32)) &&& Int32.toUInt32 31)).toInt32) &&& (1431655765 : Int32)))) >>> ((Int32.toUInt32 (2 : Int32)) &&& Int32.toUInt32 31)).toInt32) &&& (858993459 : Int32))) + (((Int32.toUInt32 (((x0 - ((((Int32.toUInt32 x0) >>> ((Int32.toUInt32 (1 : Int32)) &&& Int32.toUInt32 31)).toInt32) &&& (1431655765 : Int32))) &&& (858993459 : Int32)) + ((((Int32.toUInt32 (x0 - ((((Int32.toUInt32 x0) >>> ((Int32.toUInt32 (1 : Int32)) &&& Int32.toUInt32 31)).toInt32) &&& (1431655765 : Int32)))) >>> ((Int32.toUInt32 (2 : Int32)) &&& Int32.toUInt32 31)).toInt32) &&& (858993459 : Int32)))) >>> ((Int32.toUInt32 (4 : Int32)) &&& Int32.toUInt32 31)).toInt32)) &&& (252645135 : Int32)) + (((Int32.toUInt32 (((((x0 - ((((Int32.toUInt32 x0) >>> ((Int32.toUInt32 (1 : Int32)) &&& Int32.toUInt32 31)).toInt32) &&& (1431655765 : Int32))) &&& (858993459 : Int32)) + ((((Int32.toUInt32 (x0 - ((((Int32.toUInt32 x0) >>> ((Int32.toUInt32 (1 : Int32)) &&& Int32.toUInt32 31)).toInt32) &&& (1431655765 : Int32)))) >>> ((Int32.toUInt32 (2 : Int32)) &&& Int32.toUInt32 31)).toInt32) &&& (858993459 : Int32))) + (((Int32.toUInt32 (((x0 - ((((Int32.toUInt32 x0) >>> ((Int32.toUInt32 (1 : Int32)) &&& Int32.toUInt32 31)).toInt32) &&& (1431655765 : Int32))) &&& (858993459 : Int32)) + ((((Int32.toUInt32 (x0 - ((((Int32.toUInt32 x0) >>> ((Int32.toUInt32 (1 : Int32)) &&& Int32.toUInt32 31)).toInt32) &&& (1431655765 : Int32)))) >>> ((Int32.toUInt32 (2 : Int32)) &&& Int32.toUInt32 31)).toInt32) &&& (858993459 : Int32)))) >>> ((Int32.toUInt32 (4 : Int32)) &&& Int32.toUInt32 31)).toInt32)) &&& (252645135 : Int32))) >>> ((Int32.toUInt32 (8 : Int32)) &&& Int32.toUInt32 31)).toInt32))]) rfl rfl trivial ?_
  refine xw_G (pc' := 41) (ls' := [some (.int ((((((x0 - ((((Int32.toUInt32 x0) >>> ((Int32.toUInt32 (1 : Int32)) &&& Int32.toUInt32 31)).toInt32) &&& (1431655765 : Int32))) &&& (858993459 : Int32)) + ((((Int32.toUInt32 (x0 - ((((Int32.toUInt32 x0) >>> ((Int32.toUInt32 (1 : Int32)) &&& Int32.toUInt32 31)).toInt32) &&& (1431655765 : Int32)))) >>> ((Int32.toUInt32 (2 : Int32)) &&& Int32.toUInt32 31)).toInt32) &&& (858993459 : Int32))) + (((Int32.toUInt32 (((x0 - ((((Int32.toUInt32 x0) >>> ((Int32.toUInt32 (1 : Int32)) &&& Int32.toUInt32 31)).toInt32) &&& (1431655765 : Int32))) &&& (858993459 : Int32)) + ((((Int32.toUInt32 (x0 - ((((Int32.toUInt32 x0) >>> ((Int32.toUInt32 (1 : Int32)) &&& Int32.toUInt32 31)).toInt32) &&& (1431655765 : Int32)))) >>> ((Int32.toUInt32 (2 : Int32)) &&& Int32.toUInt32 31)).toInt32) &&& (858993459 : Int32)))) >>> ((Int32.toUInt32 (4 : Int32)) &&& Int32.toUInt32 31)).toInt32)) &&& (252645135 : Int32)) + (((Int32.toUInt32 (((((x0 - ((((Int32.toUInt32 x0) >>> ((Int32.toUInt32 (1 : Int32)) &&& Int32.toUInt32 31)).toInt32) &&& (1431655765 : Int32))) &&& (858993459 : Int32)) + ((((Int32.toUInt32 (x0 - ((((Int32.toUInt32 x0) >>> ((Int32.toUInt32 (1 : Int32)) &&& Int32.toUInt32 31)).toInt32) &&& (1431655765 : Int32)))) >>> ((Int32.toUInt32 (2 : Int32)) &&& Int32.toUInt32 31)).toInt32) &&& (858993459 : Int32))) + (((Int32.toUInt32 (((x0 - ((((Int32.toUInt32 x0) >>> ((Int32.toUInt32 (1 : Int32)) &&& Int32.toUInt32 31)).toInt32) &&& (1431655765 : Int32))) &&& (858993459 : Int32)) + ((((Int32.toUInt32 (x0 - ((((Int32.toUInt32 x0) >>> ((Int32.toUInt32 (1 : Int32)) &&& Int32.toUInt32 31)).toInt32) &&& (1431655765 : Int32)))) >>> ((Int32.toUInt32 (2 : Int32)) &&& Int32.toUInt32 31)).toInt32) &&& (858993459 : Int32)))) >>> ((Int32.toUInt32 (4 : Int32)) &&& Int32.toUInt32 31)).toInt32)) &&& (252645135 : Int32))) >>> ((Int32.toUInt32 (8 : Int32)) &&& Int32.toUInt32 31)).toInt32)))]) (st' := []) rfl rfl (Nat.le_of_ble_eq_true rfl) ?_
  refine xw_G (pc' := 42) (st' := [.int ((((((x0 - ((((Int32.toUInt32 x0) >>> ((Int32.toUInt32 (1 : Int32)) &&& Int32.toUInt32 31)).toInt32) &&& (1431655765 : Int32))) &&& (858993459 : Int32)) + ((((Int32.toUInt32 (x0 - ((((Int32.toUInt32 x0) >>> ((Int32.toUInt32 (1 : Int32)) &&& Int32.toUInt32 31)).toInt32) &&& (1431655765 : Int32)))) >>> ((Int32.toUInt32 (2 : Int32)) &&& Int32.toUInt32 31)).toInt32) &&& (858993459 : Int32))) + (((Int32.toUInt32 (((x0 - ((((Int32.toUInt32 x0) >>> ((Int32.toUInt32 (1 : Int32)) &&& Int32.toUInt32 31)).toInt32) &&& (1431655765 : Int32))) &&& (858993459 : Int32)) + ((((Int32.toUInt32 (x0 - ((((Int32.toUInt32 x0) >>> ((Int32.toUInt32 (1 : Int32)) &&& Int32.toUInt32 31)).toInt32) &&& (1431655765 : Int32)))) >>> ((Int32.toUInt32 (2 : Int32)) &&& Int32.toUInt32 31)).toInt32) &&& (858993459 : Int32)))) >>> ((Int32.toUInt32 (4 : Int32)) &&& Int32.toUInt32 31)).toInt32)) &&& (252645135 : Int32)) + (((Int32.toUInt32 (((((x0 - ((((Int32.toUInt32 x0) >>> ((Int32.toUInt32 (1 : Int32)) &&& Int32.toUInt32 31)).toInt32) &&& (1431655765 : Int32))) &&& (858993459 : Int32)) + ((((Int32.toUInt32 (x0 - ((((Int32.toUInt32 x0) >>> ((Int32.toUInt32 (1 : Int32)) &&& Int32.toUInt32 31)).toInt32) &&& (1431655765 : Int32)))) >>> ((Int32.toUInt32 (2 : Int32)) &&& Int32.toUInt32 31)).toInt32) &&& (858993459 : Int32))) + (((Int32.toUInt32 (((x0 - ((((Int32.toUInt32 x0) >>> ((Int32.toUInt32 (1 : Int32)) &&& Int32.toUInt32 31)).toInt32) &&& (1431655765 : Int32))) &&& (858993459 : Int32)) + ((((Int32.toUInt32 (x0 - ((((Int32.toUInt32 x0) >>> ((Int32.toUInt32 (1 : Int32)) &&& Int32.toUInt32 31)).toInt32) &&& (1431655765 : Int32)))) >>> ((Int32.toUInt32 (2 : Int32)) &&& Int32.toUInt32 31)).toInt32) &&& (858993459 : Int32)))) >>> ((Int32.toUInt32 (4 : Int32)) &&& Int32.toUInt32 31)).toInt32)) &&& (252645135 : Int32))) >>> ((Int32.toUInt32 (8 : Int32)) &&& Int32.toUInt32 31)).toInt32))]) rfl rfl trivial ?_
  refine xw_G (pc' := 43) (st' := [.int ((((((x0 - ((((Int32.toUInt32 x0) >>> ((Int32.toUInt32 (1 : Int32)) &&& Int32.toUInt32 31)).toInt32) &&& (1431655765 : Int32))) &&& (858993459 : Int32)) + ((((Int32.toUInt32 (x0 - ((((Int32.toUInt32 x0) >>> ((Int32.toUInt32 (1 : Int32)) &&& Int32.toUInt32 31)).toInt32) &&& (1431655765 : Int32)))) >>> ((Int32.toUInt32 (2 : Int32)) &&& Int32.toUInt32 31)).toInt32) &&& (858993459 : Int32))) + (((Int32.toUInt32 (((x0 - ((((Int32.toUInt32 x0) >>> ((Int32.toUInt32 (1 : Int32)) &&& Int32.toUInt32 31)).toInt32) &&& (1431655765 : Int32))) &&& (858993459 : Int32)) + ((((Int32.toUInt32 (x0 - ((((Int32.toUInt32 x0) >>> ((Int32.toUInt32 (1 : Int32)) &&& Int32.toUInt32 31)).toInt32) &&& (1431655765 : Int32)))) >>> ((Int32.toUInt32 (2 : Int32)) &&& Int32.toUInt32 31)).toInt32) &&& (858993459 : Int32)))) >>> ((Int32.toUInt32 (4 : Int32)) &&& Int32.toUInt32 31)).toInt32)) &&& (252645135 : Int32)) + (((Int32.toUInt32 (((((x0 - ((((Int32.toUInt32 x0) >>> ((Int32.toUInt32 (1 : Int32)) &&& Int32.toUInt32 31)).toInt32) &&& (1431655765 : Int32))) &&& (858993459 : Int32)) + ((((Int32.toUInt32 (x0 - ((((Int32.toUInt32 x0) >>> ((Int32.toUInt32 (1 : Int32)) &&& Int32.toUInt32 31)).toInt32) &&& (1431655765 : Int32)))) >>> ((Int32.toUInt32 (2 : Int32)) &&& Int32.toUInt32 31)).toInt32) &&& (858993459 : Int32))) + (((Int32.toUInt32 (((x0 - ((((Int32.toUInt32 x0) >>> ((Int32.toUInt32 (1 : Int32)) &&& Int32.toUInt32 31)).toInt32) &&& (1431655765 : Int32))) &&& (858993459 : Int32)) + ((((Int32.toUInt32 (x0 - ((((Int32.toUInt32 x0) >>> ((Int32.toUInt32 (1 : Int32)) &&& Int32.toUInt32 31)).toInt32) &&& (1431655765 : Int32)))) >>> ((Int32.toUInt32 (2 : Int32)) &&& Int32.toUInt32 31)).toInt32) &&& (858993459 : Int32)))) >>> ((Int32.toUInt32 (4 : Int32)) &&& Int32.toUInt32 31)).toInt32)) &&& (252645135 : Int32))) >>> ((Int32.toUInt32 (8 : Int32)) &&& Int32.toUInt32 31)).toInt32)), .int ((((((x0 - ((((Int32.toUInt32 x0) >>> ((Int32.toUInt32 (1 : Int32)) &&& Int32.toUInt32 31)).toInt32) &&& (1431655765 : Int32))) &&& (858993459 : Int32)) + ((((Int32.toUInt32 (x0 - ((((Int32.toUInt32 x0) >>> ((Int32.toUInt32 (1 : Int32)) &&& Int32.toUInt32 31)).toInt32) &&& (1431655765 : Int32)))) >>> ((Int32.toUInt32 (2 : Int32)) &&& Int32.toUInt32 31)).toInt32) &&& (858993459 : Int32))) + (((Int32.toUInt32 (((x0 - ((((Int32.toUInt32 x0) >>> ((Int32.toUInt32 (1 : Int32)) &&& Int32.toUInt32 31)).toInt32) &&& (1431655765 : Int32))) &&& (858993459 : Int32)) + ((((Int32.toUInt32 (x0 - ((((Int32.toUInt32 x0) >>> ((Int32.toUInt32 (1 : Int32)) &&& Int32.toUInt32 31)).toInt32) &&& (1431655765 : Int32)))) >>> ((Int32.toUInt32 (2 : Int32)) &&& Int32.toUInt32 31)).toInt32) &&& (858993459 : Int32)))) >>> ((Int32.toUInt32 (4 : Int32)) &&& Int32.toUInt32 31)).toInt32)) &&& (252645135 : Int32)) + (((Int32.toUInt32 (((((x0 - ((((Int32.toUInt32 x0) >>> ((Int32.toUInt32 (1 : Int32)) &&& Int32.toUInt32 31)).toInt32) &&& (1431655765 : Int32))) &&& (858993459 : Int32)) + ((((Int32.toUInt32 (x0 - ((((Int32.toUInt32 x0) >>> ((Int32.toUInt32 (1 : Int32)) &&& Int32.toUInt32 31)).toInt32) &&& (1431655765 : Int32)))) >>> ((Int32.toUInt32 (2 : Int32)) &&& Int32.toUInt32 31)).toInt32) &&& (858993459 : Int32))) + (((Int32.toUInt32 (((x0 - ((((Int32.toUInt32 x0) >>> ((Int32.toUInt32 (1 : Int32)) &&& Int32.toUInt32 31)).toInt32) &&& (1431655765 : Int32))) &&& (858993459 : Int32)) + ((((Int32.toUInt32 (x0 - ((((Int32.toUInt32 x0) >>> ((Int32.toUInt32 (1 : Int32)) &&& Int32.toUInt32 31)).toInt32) &&& (1431655765 : Int32)))) >>> ((Int32.toUInt32 (2 : Int32)) &&& Int32.toUInt32 31)).toInt32) &&& (858993459 : Int32)))) >>> ((Int32.toUInt32 (4 : Int32)) &&& Int32.toUInt32 31)).toInt32)) &&& (252645135 : Int32))) >>> ((Int32.toUInt32 (8 : Int32)) &&& Int32.toUInt32 31)).toInt32))]) rfl rfl trivial ?_
  refine xw_G (pc' := 45) (st' := [.int (16 : Int32), .int ((((((x0 - ((((Int32.toUInt32 x0) >>> ((Int32.toUInt32 (1 : Int32)) &&& Int32.toUInt32 31)).toInt32) &&& (1431655765 : Int32))) &&& (858993459 : Int32)) + ((((Int32.toUInt32 (x0 - ((((Int32.toUInt32 x0) >>> ((Int32.toUInt32 (1 : Int32)) &&& Int32.toUInt32 31)).toInt32) &&& (1431655765 : Int32)))) >>> ((Int32.toUInt32 (2 : Int32)) &&& Int32.toUInt32 31)).toInt32) &&& (858993459 : Int32))) + (((Int32.toUInt32 (((x0 - ((((Int32.toUInt32 x0) >>> ((Int32.toUInt32 (1 : Int32)) &&& Int32.toUInt32 31)).toInt32) &&& (1431655765 : Int32))) &&& (858993459 : Int32)) + ((((Int32.toUInt32 (x0 - ((((Int32.toUInt32 x0) >>> ((Int32.toUInt32 (1 : Int32)) &&& Int32.toUInt32 31)).toInt32) &&& (1431655765 : Int32)))) >>> ((Int32.toUInt32 (2 : Int32)) &&& Int32.toUInt32 31)).toInt32) &&& (858993459 : Int32)))) >>> ((Int32.toUInt32 (4 : Int32)) &&& Int32.toUInt32 31)).toInt32)) &&& (252645135 : Int32)) + (((Int32.toUInt32 (((((x0 - ((((Int32.toUInt32 x0) >>> ((Int32.toUInt32 (1 : Int32)) &&& Int32.toUInt32 31)).toInt32) &&& (1431655765 : Int32))) &&& (858993459 : Int32)) + ((((Int32.toUInt32 (x0 - ((((Int32.toUInt32 x0) >>> ((Int32.toUInt32 (1 : Int32)) &&& Int32.toUInt32 31)).toInt32) &&& (1431655765 : Int32)))) >>> ((Int32.toUInt32 (2 : Int32)) &&& Int32.toUInt32 31)).toInt32) &&& (858993459 : Int32))) + (((Int32.toUInt32 (((x0 - ((((Int32.toUInt32 x0) >>> ((Int32.toUInt32 (1 : Int32)) &&& Int32.toUInt32 31)).toInt32) &&& (1431655765 : Int32))) &&& (858993459 : Int32)) + ((((Int32.toUInt32 (x0 - ((((Int32.toUInt32 x0) >>> ((Int32.toUInt32 (1 : Int32)) &&& Int32.toUInt32 31)).toInt32) &&& (1431655765 : Int32)))) >>> ((Int32.toUInt32 (2 : Int32)) &&& Int32.toUInt32 31)).toInt32) &&& (858993459 : Int32)))) >>> ((Int32.toUInt32 (4 : Int32)) &&& Int32.toUInt32 31)).toInt32)) &&& (252645135 : Int32))) >>> ((Int32.toUInt32 (8 : Int32)) &&& Int32.toUInt32 31)).toInt32)), .int ((((((x0 - ((((Int32.toUInt32 x0) >>> ((Int32.toUInt32 (1 : Int32)) &&& Int32.toUInt32 31)).toInt32) &&& (1431655765 : Int32))) &&& (858993459 : Int32)) + ((((Int32.toUInt32 (x0 - ((((Int32.toUInt32 x0) >>> ((Int32.toUInt32 (1 : Int32)) &&& Int32.toUInt32 31)).toInt32) &&& (1431655765 : Int32)))) >>> ((Int32.toUInt32 (2 : Int32)) &&& Int32.toUInt32 31)).toInt32) &&& (858993459 : Int32))) + (((Int32.toUInt32 (((x0 - ((((Int32.toUInt32 x0) >>> ((Int32.toUInt32 (1 : Int32)) &&& Int32.toUInt32 31)).toInt32) &&& (1431655765 : Int32))) &&& (858993459 : Int32)) + ((((Int32.toUInt32 (x0 - ((((Int32.toUInt32 x0) >>> ((Int32.toUInt32 (1 : Int32)) &&& Int32.toUInt32 31)).toInt32) &&& (1431655765 : Int32)))) >>> ((Int32.toUInt32 (2 : Int32)) &&& Int32.toUInt32 31)).toInt32) &&& (858993459 : Int32)))) >>> ((Int32.toUInt32 (4 : Int32)) &&& Int32.toUInt32 31)).toInt32)) &&& (252645135 : Int32)) + (((Int32.toUInt32 (((((x0 - ((((Int32.toUInt32 x0) >>> ((Int32.toUInt32 (1 : Int32)) &&& Int32.toUInt32 31)).toInt32) &&& (1431655765 : Int32))) &&& (858993459 : Int32)) + ((((Int32.toUInt32 (x0 - ((((Int32.toUInt32 x0) >>> ((Int32.toUInt32 (1 : Int32)) &&& Int32.toUInt32 31)).toInt32) &&& (1431655765 : Int32)))) >>> ((Int32.toUInt32 (2 : Int32)) &&& Int32.toUInt32 31)).toInt32) &&& (858993459 : Int32))) + (((Int32.toUInt32 (((x0 - ((((Int32.toUInt32 x0) >>> ((Int32.toUInt32 (1 : Int32)) &&& Int32.toUInt32 31)).toInt32) &&& (1431655765 : Int32))) &&& (858993459 : Int32)) + ((((Int32.toUInt32 (x0 - ((((Int32.toUInt32 x0) >>> ((Int32.toUInt32 (1 : Int32)) &&& Int32.toUInt32 31)).toInt32) &&& (1431655765 : Int32)))) >>> ((Int32.toUInt32 (2 : Int32)) &&& Int32.toUInt32 31)).toInt32) &&& (858993459 : Int32)))) >>> ((Int32.toUInt32 (4 : Int32)) &&& Int32.toUInt32 31)).toInt32)) &&& (252645135 : Int32))) >>> ((Int32.toUInt32 (8 : Int32)) &&& Int32.toUInt32 31)).toInt32))]) rfl rfl trivial ?_
  refine xw_G (pc' := 46) (st' := [.int (((Int32.toUInt32 ((((((x0 - ((((Int32.toUInt32 x0) >>> ((Int32.toUInt32 (1 : Int32)) &&& Int32.toUInt32 31)).toInt32) &&& (1431655765 : Int32))) &&& (858993459 : Int32)) + ((((Int32.toUInt32 (x0 - ((((Int32.toUInt32 x0) >>> ((Int32.toUInt32 (1 : Int32)) &&& Int32.toUInt32 31)).toInt32) &&& (1431655765 : Int32)))) >>> ((Int32.toUInt32 (2 : Int32)) &&& Int32.toUInt32 31)).toInt32) &&& (858993459 : Int32))) + (((Int32.toUInt32 (((x0 - ((((Int32.toUInt32 x0) >>> ((Int32.toUInt32 (1 : Int32)) &&& Int32.toUInt32 31)).toInt32) &&& (1431655765 : Int32))) &&& (858993459 : Int32)) + ((((Int32.toUInt32 (x0 - ((((Int32.toUInt32 x0) >>> ((Int32.toUInt32 (1 : Int32)) &&& Int32.toUInt32 31)).toInt32) &&& (1431655765 : Int32)))) >>> ((Int32.toUInt32 (2 : Int32)) &&& Int32.toUInt32 31)).toInt32) &&& (858993459 : Int32)))) >>> ((Int32.toUInt32 (4 : Int32)) &&& Int32.toUInt32 31)).toInt32)) &&& (252645135 : Int32)) + (((Int32.toUInt32 (((((x0 - ((((Int32.toUInt32 x0) >>> ((Int32.toUInt32 (1 : Int32)) &&& Int32.toUInt32 31)).toInt32) &&& (1431655765 : Int32))) &&& (858993459 : Int32)) + ((((Int32.toUInt32 (x0 - ((((Int32.toUInt32 x0) >>> ((Int32.toUInt32 (1 : Int32)) &&& Int32.toUInt32 31)).toInt32) &&& (1431655765 : Int32)))) >>> ((Int32.toUInt32 (2 : Int32)) &&& Int32.toUInt32 31)).toInt32) &&& (858993459 : Int32))) + (((Int32.toUInt32 (((x0 - ((((Int32.toUInt32 x0) >>> ((Int32.toUInt32 (1 : Int32)) &&& Int32.toUInt32 31)).toInt32) &&& (1431655765 : Int32))) &&& (858993459 : Int32)) + ((((Int32.toUInt32 (x0 - ((((Int32.toUInt32 x0) >>> ((Int32.toUInt32 (1 : Int32)) &&& Int32.toUInt32 31)).toInt32) &&& (1431655765 : Int32)))) >>> ((Int32.toUInt32 (2 : Int32)) &&& Int32.toUInt32 31)).toInt32) &&& (858993459 : Int32)))) >>> ((Int32.toUInt32 (4 : Int32)) &&& Int32.toUInt32 31)).toInt32)) &&& (252645135 : Int32))) >>> ((Int32.toUInt32 (8 : Int32)) &&& Int32.toUInt32 31)).toInt32))) >>> ((Int32.toUInt32 (16 : Int32)) &&& Int32.toUInt32 31)).toInt32), .int ((((((x0 - ((((Int32.toUInt32 x0) >>> ((Int32.toUInt32 (1 : Int32)) &&& Int32.toUInt32 31)).toInt32) &&& (1431655765 : Int32))) &&& (858993459 : Int32)) + ((((Int32.toUInt32 (x0 - ((((Int32.toUInt32 x0) >>> ((Int32.toUInt32 (1 : Int32)) &&& Int32.toUInt32 31)).toInt32) &&& (1431655765 : Int32)))) >>> ((Int32.toUInt32 (2 : Int32)) &&& Int32.toUInt32 31)).toInt32) &&& (858993459 : Int32))) + (((Int32.toUInt32 (((x0 - ((((Int32.toUInt32 x0) >>> ((Int32.toUInt32 (1 : Int32)) &&& Int32.toUInt32 31)).toInt32) &&& (1431655765 : Int32))) &&& (858993459 : Int32)) + ((((Int32.toUInt32 (x0 - ((((Int32.toUInt32 x0) >>> ((Int32.toUInt32 (1 : Int32)) &&& Int32.toUInt32 31)).toInt32) &&& (1431655765 : Int32)))) >>> ((Int32.toUInt32 (2 : Int32)) &&& Int32.toUInt32 31)).toInt32) &&& (858993459 : Int32)))) >>> ((Int32.toUInt32 (4 : Int32)) &&& Int32.toUInt32 31)).toInt32)) &&& (252645135 : Int32)) + (((Int32.toUInt32 (((((x0 - ((((Int32.toUInt32 x0) >>> ((Int32.toUInt32 (1 : Int32)) &&& Int32.toUInt32 31)).toInt32) &&& (1431655765 : Int32))) &&& (858993459 : Int32)) + ((((Int32.toUInt32 (x0 - ((((Int32.toUInt32 x0) >>> ((Int32.toUInt32 (1 : Int32)) &&& Int32.toUInt32 31)).toInt32) &&& (1431655765 : Int32)))) >>> ((Int32.toUInt32 (2 : Int32)) &&& Int32.toUInt32 31)).toInt32) &&& (858993459 : Int32))) + (((Int32.toUInt32 (((x0 - ((((Int32.toUInt32 x0) >>> ((Int32.toUInt32 (1 : Int32)) &&& Int32.toUInt32 31)).toInt32) &&& (1431655765 : Int32))) &&& (858993459 : Int32)) + ((((Int32.toUInt32 (x0 - ((((Int32.toUInt32 x0) >>> ((Int32.toUInt32 (1 : Int32)) &&& Int32.toUInt32 31)).toInt32) &&& (1431655765 : Int32)))) >>> ((Int32.toUInt32 (2 : Int32)) &&& Int32.toUInt32 31)).toInt32) &&& (858993459 : Int32)))) >>> ((Int32.toUInt32 (4 : Int32)) &&& Int32.toUInt32 31)).toInt32)) &&& (252645135 : Int32))) >>> ((Int32.toUInt32 (8 : Int32)) &&& Int32.toUInt32 31)).toInt32))]) rfl rfl trivial ?_
  refine xw_G (pc' := 47) (st' := [.int (((((((x0 - ((((Int32.toUInt32 x0) >>> ((Int32.toUInt32 (1 : Int32)) &&& Int32.toUInt32 31)).toInt32) &&& (1431655765 : Int32))) &&& (858993459 : Int32)) + ((((Int32.toUInt32 (x0 - ((((Int32.toUInt32 x0) >>> ((Int32.toUInt32 (1 : Int32)) &&& Int32.toUInt32 31)).toInt32) &&& (1431655765 : Int32)))) >>> ((Int32.toUInt32 (2 : Int32)) &&& Int32.toUInt32 31)).toInt32) &&& (858993459 : Int32))) + (((Int32.toUInt32 (((x0 - ((((Int32.toUInt32 x0) >>> ((Int32.toUInt32 (1 : Int32)) &&& Int32.toUInt32 31)).toInt32) &&& (1431655765 : Int32))) &&& (858993459 : Int32)) + ((((Int32.toUInt32 (x0 - ((((Int32.toUInt32 x0) >>> ((Int32.toUInt32 (1 : Int32)) &&& Int32.toUInt32 31)).toInt32) &&& (1431655765 : Int32)))) >>> ((Int32.toUInt32 (2 : Int32)) &&& Int32.toUInt32 31)).toInt32) &&& (858993459 : Int32)))) >>> ((Int32.toUInt32 (4 : Int32)) &&& Int32.toUInt32 31)).toInt32)) &&& (252645135 : Int32)) + (((Int32.toUInt32 (((((x0 - ((((Int32.toUInt32 x0) >>> ((Int32.toUInt32 (1 : Int32)) &&& Int32.toUInt32 31)).toInt32) &&& (1431655765 : Int32))) &&& (858993459 : Int32)) + ((((Int32.toUInt32 (x0 - ((((Int32.toUInt32 x0) >>> ((Int32.toUInt32 (1 : Int32)) &&& Int32.toUInt32 31)).toInt32) &&& (1431655765 : Int32)))) >>> ((Int32.toUInt32 (2 : Int32)) &&& Int32.toUInt32 31)).toInt32) &&& (858993459 : Int32))) + (((Int32.toUInt32 (((x0 - ((((Int32.toUInt32 x0) >>> ((Int32.toUInt32 (1 : Int32)) &&& Int32.toUInt32 31)).toInt32) &&& (1431655765 : Int32))) &&& (858993459 : Int32)) + ((((Int32.toUInt32 (x0 - ((((Int32.toUInt32 x0) >>> ((Int32.toUInt32 (1 : Int32)) &&& Int32.toUInt32 31)).toInt32) &&& (1431655765 : Int32)))) >>> ((Int32.toUInt32 (2 : Int32)) &&& Int32.toUInt32 31)).toInt32) &&& (858993459 : Int32)))) >>> ((Int32.toUInt32 (4 : Int32)) &&& Int32.toUInt32 31)).toInt32)) &&& (252645135 : Int32))) >>> ((Int32.toUInt32 (8 : Int32)) &&& Int32.toUInt32 31)).toInt32)) + (((Int32.toUInt32 ((((((x0 - ((((Int32.toUInt32 x0) >>> ((Int32.toUInt32 (1 : Int32)) &&& Int32.toUInt32 31)).toInt32) &&& (1431655765 : Int32))) &&& (858993459 : Int32)) + ((((Int32.toUInt32 (x0 - ((((Int32.toUInt32 x0) >>> ((Int32.toUInt32 (1 : Int32)) &&& Int32.toUInt32 31)).toInt32) &&& (1431655765 : Int32)))) >>> ((Int32.toUInt32 (2 : Int32)) &&& Int32.toUInt32 31)).toInt32) &&& (858993459 : Int32))) + (((Int32.toUInt32 (((x0 - ((((Int32.toUInt32 x0) >>> ((Int32.toUInt32 (1 : Int32)) &&& Int32.toUInt32 31)).toInt32) &&& (1431655765 : Int32))) &&& (858993459 : Int32)) + ((((Int32.toUInt32 (x0 - ((((Int32.toUInt32 x0) >>> ((Int32.toUInt32 (1 : Int32)) &&& Int32.toUInt32 31)).toInt32) &&& (1431655765 : Int32)))) >>> ((Int32.toUInt32 (2 : Int32)) &&& Int32.toUInt32 31)).toInt32) &&& (858993459 : Int32)))) >>> ((Int32.toUInt32 (4 : Int32)) &&& Int32.toUInt32 31)).toInt32)) &&& (252645135 : Int32)) + (((Int32.toUInt32 (((((x0 - ((((Int32.toUInt32 x0) >>> ((Int32.toUInt32 (1 : Int32)) &&& Int32.toUInt32 31)).toInt32) &&& (1431655765 : Int32))) &&& (858993459 : Int32)) + ((((Int32.toUInt32 (x0 - ((((Int32.toUInt32 x0) >>> ((Int32.toUInt32 (1 : Int32)) &&& Int32.toUInt32 31)).toInt32) &&& (1431655765 : Int32)))) >>> ((Int32.toUInt32 (2 : Int32)) &&& Int32.toUInt32 31)).toInt32) &&& (858993459 : Int32))) + (((Int32.toUInt32 (((x0 - ((((Int32.toUInt32 x0) >>> ((Int32.toUInt32 (1 : Int32)) &&& Int32.toUInt32 31)).toInt32) &&& (1431655765 : Int32))) &&& (858993459 : Int32)) + ((((Int32.toUInt32 (x0 - ((((Int32.toUInt32 x0) >>> ((Int32.toUInt32 (1 : Int32)) &&& Int32.toUInt32 31)).toInt32) &&& (1431655765 : Int32)))) >>> ((Int32.toUInt32 (2 : Int32)) &&& Int32.toUInt32 31)).toInt32) &&& (858993459 : Int32)))) >>> ((Int32.toUInt32 (4 : Int32)) &&& Int32.toUInt32 31)).toInt32)) &&& (252645135 : Int32))) >>> ((Int32.toUInt32 (8 : Int32)) &&& Int32.toUInt32 31)).toInt32))) >>> ((Int32.toUInt32 (16 : Int32)) &&& Int32.toUInt32 31)).toInt32))]) rfl rfl trivial ?_
  refine xw_G (pc' := 48) (ls' := [some (.int (((((((x0 - ((((Int32.toUInt32 x0) >>> ((Int32.toUInt32 (1 : Int32)) &&& Int32.toUInt32 31)).toInt32) &&& (1431655765 : Int32))) &&& (858993459 : Int32)) + ((((Int32.toUInt32 (x0 - ((((Int32.toUInt32 x0) >>> ((Int32.toUInt32 (1 : Int32)) &&& Int32.toUInt32 31)).toInt32) &&& (1431655765 : Int32)))) >>> ((Int32.toUInt32 (2 : Int32)) &&& Int32.toUInt32 31)).toInt32) &&& (858993459 : Int32))) + (((Int32.toUInt32 (((x0 - ((((Int32.toUInt32 x0) >>> ((Int32.toUInt32 (1 : Int32)) &&& Int32.toUInt32 31)).toInt32) &&& (1431655765 : Int32))) &&& (858993459 : Int32)) + ((((Int32.toUInt32 (x0 - ((((Int32.toUInt32 x0) >>> ((Int32.toUInt32 (1 : Int32)) &&& Int32.toUInt32 31)).toInt32) &&& (1431655765 : Int32)))) >>> ((Int32.toUInt32 (2 : Int32)) &&& Int32.toUInt32 31)).toInt32) &&& (858993459 : Int32)))) >>> ((Int32.toUInt32 (4 : Int32)) &&& Int32.toUInt32 31)).toInt32)) &&& (252645135 : Int32)) + (((Int32.toUInt32 (((((x0 - ((((Int32.toUInt32 x0) >>> ((Int32.toUInt32 (1 : Int32)) &&& Int32.toUInt32 31)).toInt32) &&& (1431655765 : Int32))) &&& (858993459 : Int32)) + ((((Int32.toUInt32 (x0 - ((((Int32.toUInt32 x0) >>> ((Int32.toUInt32 (1 : Int32)) &&& Int32.toUInt32 31)).toInt32) &&& (1431655765 : Int32)))) >>> ((Int32.toUInt32 (2 : Int32)) &&& Int32.toUInt32 31)).toInt32) &&& (858993459 : Int32))) + (((Int32.toUInt32 (((x0 - ((((Int32.toUInt32 x0) >>> ((Int32.toUInt32 (1 : Int32)) &&& Int32.toUInt32 31)).toInt32) &&& (1431655765 : Int32))) &&& (858993459 : Int32)) + ((((Int32.toUInt32 (x0 - ((((Int32.toUInt32 x0) >>> ((Int32.toUInt32 (1 : Int32)) &&& Int32.toUInt32 31)).toInt32) &&& (1431655765 : Int32)))) >>> ((Int32.toUInt32 (2 : Int32)) &&& Int32.toUInt32 31)).toInt32) &&& (858993459 : Int32)))) >>> ((Int32.toUInt32 (4 : Int32)) &&& Int32.toUInt32 31)).toInt32)) &&& (252645135 : Int32))) >>> ((Int32.toUInt32 (8 : Int32)) &&& Int32.toUInt32 31)).toInt32)) + (((Int32.toUInt32 ((((((x0 - ((((Int32.toUInt32 x0) >>> ((Int32.toUInt32 (1 : Int32)) &&& Int32.toUInt32 31)).toInt32) &&& (1431655765 : Int32))) &&& (858993459 : Int32)) + ((((Int32.toUInt32 (x0 - ((((Int32.toUInt32 x0) >>> ((Int32.toUInt32 (1 : Int32)) &&& Int32.toUInt32 31)).toInt32) &&& (1431655765 : Int32)))) >>> ((Int32.toUInt32 (2 : Int32)) &&& Int32.toUInt32 31)).toInt32) &&& (858993459 : Int32))) + (((Int32.toUInt32 (((x0 - ((((Int32.toUInt32 x0) >>> ((Int32.toUInt32 (1 : Int32)) &&& Int32.toUInt32 31)).toInt32) &&& (1431655765 : Int32))) &&& (858993459 : Int32)) + ((((Int32.toUInt32 (x0 - ((((Int32.toUInt32 x0) >>> ((Int32.toUInt32 (1 : Int32)) &&& Int32.toUInt32 31)).toInt32) &&& (1431655765 : Int32)))) >>> ((Int32.toUInt32 (2 : Int32)) &&& Int32.toUInt32 31)).toInt32) &&& (858993459 : Int32)))) >>> ((Int32.toUInt32 (4 : Int32)) &&& Int32.toUInt32 31)).toInt32)) &&& (252645135 : Int32)) + (((Int32.toUInt32 (((((x0 - ((((Int32.toUInt32 x0) >>> ((Int32.toUInt32 (1 : Int32)) &&& Int32.toUInt32 31)).toInt32) &&& (1431655765 : Int32))) &&& (858993459 : Int32)) + ((((Int32.toUInt32 (x0 - ((((Int32.toUInt32 x0) >>> ((Int32.toUInt32 (1 : Int32)) &&& Int32.toUInt32 31)).toInt32) &&& (1431655765 : Int32)))) >>> ((Int32.toUInt32 (2 : Int32)) &&& Int32.toUInt32 31)).toInt32) &&& (858993459 : Int32))) + (((Int32.toUInt32 (((x0 - ((((Int32.toUInt32 x0) >>> ((Int32.toUInt32 (1 : Int32)) &&& Int32.toUInt32 31)).toInt32) &&& (1431655765 : Int32))) &&& (858993459 : Int32)) + ((((Int32.toUInt32 (x0 - ((((Int32.toUInt32 x0) >>> ((Int32.toUInt32 (1 : Int32)) &&& Int32.toUInt32 31)).toInt32) &&& (1431655765 : Int32)))) >>> ((Int32.toUInt32 (2 : Int32)) &&& Int32.toUInt32 31)).toInt32) &&& (858993459 : Int32)))) >>> ((Int32.toUInt32 (4 : Int32)) &&& Int32.toUInt32 31)).toInt32)) &&& (252645135 : Int32))) >>> ((Int32.toUInt32 (8 : Int32)) &&& Int32.toUInt32 31)).toInt32))) >>> ((Int32.toUInt32 (16 : Int32)) &&& Int32.toUInt32 31)).toInt32)))]) (st' := []) rfl rfl (Nat.le_of_ble_eq_true rfl) ?_
  refine xw_G (pc' := 49) (st' := [.int (((((((x0 - ((((Int32.toUInt32 x0) >>> ((Int32.toUInt32 (1 : Int32)) &&& Int32.toUInt32 31)).toInt32) &&& (1431655765 : Int32))) &&& (858993459 : Int32)) + ((((Int32.toUInt32 (x0 - ((((Int32.toUInt32 x0) >>> ((Int32.toUInt32 (1 : Int32)) &&& Int32.toUInt32 31)).toInt32) &&& (1431655765 : Int32)))) >>> ((Int32.toUInt32 (2 : Int32)) &&& Int32.toUInt32 31)).toInt32) &&& (858993459 : Int32))) + (((Int32.toUInt32 (((x0 - ((((Int32.toUInt32 x0) >>> ((Int32.toUInt32 (1 : Int32)) &&& Int32.toUInt32 31)).toInt32) &&& (1431655765 : Int32))) &&& (858993459 : Int32)) + ((((Int32.toUInt32 (x0 - ((((Int32.toUInt32 x0) >>> ((Int32.toUInt32 (1 : Int32)) &&& Int32.toUInt32 31)).toInt32) &&& (1431655765 : Int32)))) >>> ((Int32.toUInt32 (2 : Int32)) &&& Int32.toUInt32 31)).toInt32) &&& (858993459 : Int32)))) >>> ((Int32.toUInt32 (4 : Int32)) &&& Int32.toUInt32 31)).toInt32)) &&& (252645135 : Int32)) + (((Int32.toUInt32 (((((x0 - ((((Int32.toUInt32 x0) >>> ((Int32.toUInt32 (1 : Int32)) &&& Int32.toUInt32 31)).toInt32) &&& (1431655765 : Int32))) &&& (858993459 : Int32)) + ((((Int32.toUInt32 (x0 - ((((Int32.toUInt32 x0) >>> ((Int32.toUInt32 (1 : Int32)) &&& Int32.toUInt32 31)).toInt32) &&& (1431655765 : Int32)))) >>> ((Int32.toUInt32 (2 : Int32)) &&& Int32.toUInt32 31)).toInt32) &&& (858993459 : Int32))) + (((Int32.toUInt32 (((x0 - ((((Int32.toUInt32 x0) >>> ((Int32.toUInt32 (1 : Int32)) &&& Int32.toUInt32 31)).toInt32) &&& (1431655765 : Int32))) &&& (858993459 : Int32)) + ((((Int32.toUInt32 (x0 - ((((Int32.toUInt32 x0) >>> ((Int32.toUInt32 (1 : Int32)) &&& Int32.toUInt32 31)).toInt32) &&& (1431655765 : Int32)))) >>> ((Int32.toUInt32 (2 : Int32)) &&& Int32.toUInt32 31)).toInt32) &&& (858993459 : Int32)))) >>> ((Int32.toUInt32 (4 : Int32)) &&& Int32.toUInt32 31)).toInt32)) &&& (252645135 : Int32))) >>> ((Int32.toUInt32 (8 : Int32)) &&& Int32.toUInt32 31)).toInt32)) + (((Int32.toUInt32 ((((((x0 - ((((Int32.toUInt32 x0) >>> ((Int32.toUInt32 (1 : Int32)) &&& Int32.toUInt32 31)).toInt32) &&& (1431655765 : Int32))) &&& (858993459 : Int32)) + ((((Int32.toUInt32 (x0 - ((((Int32.toUInt32 x0) >>> ((Int32.toUInt32 (1 : Int32)) &&& Int32.toUInt32 31)).toInt32) &&& (1431655765 : Int32)))) >>> ((Int32.toUInt32 (2 : Int32)) &&& Int32.toUInt32 31)).toInt32) &&& (858993459 : Int32))) + (((Int32.toUInt32 (((x0 - ((((Int32.toUInt32 x0) >>> ((Int32.toUInt32 (1 : Int32)) &&& Int32.toUInt32 31)).toInt32) &&& (1431655765 : Int32))) &&& (858993459 : Int32)) + ((((Int32.toUInt32 (x0 - ((((Int32.toUInt32 x0) >>> ((Int32.toUInt32 (1 : Int32)) &&& Int32.toUInt32 31)).toInt32) &&& (1431655765 : Int32)))) >>> ((Int32.toUInt32 (2 : Int32)) &&& Int32.toUInt32 31)).toInt32) &&& (858993459 : Int32)))) >>> ((Int32.toUInt32 (4 : Int32)) &&& Int32.toUInt32 31)).toInt32)) &&& (252645135 : Int32)) + (((Int32.toUInt32 (((((x0 - ((((Int32.toUInt32 x0) >>> ((Int32.toUInt32 (1 : Int32)) &&& Int32.toUInt32 31)).toInt32) &&& (1431655765 : Int32))) &&& (858993459 : Int32)) + ((((Int32.toUInt32 (x0 - ((((Int32.toUInt32 x0) >>> ((Int32.toUInt32 (1 : Int32)) &&& Int32.toUInt32 31)).toInt32) &&& (1431655765 : Int32)))) >>> ((Int32.toUInt32 (2 : Int32)) &&& Int32.toUInt32 31)).toInt32) &&& (858993459 : Int32))) + (((Int32.toUInt32 (((x0 - ((((Int32.toUInt32 x0) >>> ((Int32.toUInt32 (1 : Int32)) &&& Int32.toUInt32 31)).toInt32) &&& (1431655765 : Int32))) &&& (858993459 : Int32)) + ((((Int32.toUInt32 (x0 - ((((Int32.toUInt32 x0) >>> ((Int32.toUInt32 (1 : Int32)) &&& Int32.toUInt32 31)).toInt32) &&& (1431655765 : Int32)))) >>> ((Int32.toUInt32 (2 : Int32)) &&& Int32.toUInt32 31)).toInt32) &&& (858993459 : Int32)))) >>> ((Int32.toUInt32 (4 : Int32)) &&& Int32.toUInt32 31)).toInt32)) &&& (252645135 : Int32))) >>> ((Int32.toUInt32 (8 : Int32)) &&& Int32.toUInt32 31)).toInt32))) >>> ((Int32.toUInt32 (16 : Int32)) &&& Int32.toUInt32 31)).toInt32))]) rfl rfl trivial ?_
  refine xw_G (pc' := 51) (st' := [.int (63 : Int32), .int (((((((x0 - ((((Int32.toUInt32 x0) >>> ((Int32.toUInt32 (1 : Int32)) &&& Int32.toUInt32 31)).toInt32) &&& (1431655765 : Int32))) &&& (858993459 : Int32)) + ((((Int32.toUInt32 (x0 - ((((Int32.toUInt32 x0) >>> ((Int32.toUInt32 (1 : Int32)) &&& Int32.toUInt32 31)).toInt32) &&& (1431655765 : Int32)))) >>> ((Int32.toUInt32 (2 : Int32)) &&& Int32.toUInt32 31)).toInt32) &&& (858993459 : Int32))) + (((Int32.toUInt32 (((x0 - ((((Int32.toUInt32 x0) >>> ((Int32.toUInt32 (1 : Int32)) &&& Int32.toUInt32 31)).toInt32) &&& (1431655765 : Int32))) &&& (858993459 : Int32)) + ((((Int32.toUInt32 (x0 - ((((Int32.toUInt32 x0) >>> ((Int32.toUInt32 (1 : Int32)) &&& Int32.toUInt32 31)).toInt32) &&& (1431655765 : Int32)))) >>> ((Int32.toUInt32 (2 : Int32)) &&& Int32.toUInt32 31)).toInt32) &&& (858993459 : Int32)))) >>> ((Int32.toUInt32 (4 : Int32)) &&& Int32.toUInt32 31)).toInt32)) &&& (252645135 : Int32)) + (((Int32.toUInt32 (((((x0 - ((((Int32.toUInt32 x0) >>> ((Int32.toUInt32 (1 : Int32)) &&& Int32.toUInt32 31)).toInt32) &&& (1431655765 : Int32))) &&& (858993459 : Int32)) + ((((Int32.toUInt32 (x0 - ((((Int32.toUInt32 x0) >>> ((Int32.toUInt32 (1 : Int32)) &&& Int32.toUInt32 31)).toInt32) &&& (1431655765 : Int32)))) >>> ((Int32.toUInt32 (2 : Int32)) &&& Int32.toUInt32 31)).toInt32) &&& (858993459 : Int32))) + (((Int32.toUInt32 (((x0 - ((((Int32.toUInt32 x0) >>> ((Int32.toUInt32 (1 : Int32)) &&& Int32.toUInt32 31)).toInt32) &&& (1431655765 : Int32))) &&& (858993459 : Int32)) + ((((Int32.toUInt32 (x0 - ((((Int32.toUInt32 x0) >>> ((Int32.toUInt32 (1 : Int32)) &&& Int32.toUInt32 31)).toInt32) &&& (1431655765 : Int32)))) >>> ((Int32.toUInt32 (2 : Int32)) &&& Int32.toUInt32 31)).toInt32) &&& (858993459 : Int32)))) >>> ((Int32.toUInt32 (4 : Int32)) &&& Int32.toUInt32 31)).toInt32)) &&& (252645135 : Int32))) >>> ((Int32.toUInt32 (8 : Int32)) &&& Int32.toUInt32 31)).toInt32)) + (((Int32.toUInt32 ((((((x0 - ((((Int32.toUInt32 x0) >>> ((Int32.toUInt32 (1 : Int32)) &&& Int32.toUInt32 31)).toInt32) &&& (1431655765 : Int32))) &&& (858993459 : Int32)) + ((((Int32.toUInt32 (x0 - ((((Int32.toUInt32 x0) >>> ((Int32.toUInt32 (1 : Int32)) &&& Int32.toUInt32 31)).toInt32) &&& (1431655765 : Int32)))) >>> ((Int32.toUInt32 (2 : Int32)) &&& Int32.toUInt32 31)).toInt32) &&& (858993459 : Int32))) + (((Int32.toUInt32 (((x0 - ((((Int32.toUInt32 x0) >>> ((Int32.toUInt32 (1 : Int32)) &&& Int32.toUInt32 31)).toInt32) &&& (1431655765 : Int32))) &&& (858993459 : Int32)) + ((((Int32.toUInt32 (x0 - ((((Int32.toUInt32 x0) >>> ((Int32.toUInt32 (1 : Int32)) &&& Int32.toUInt32 31)).toInt32) &&& (1431655765 : Int32)))) >>> ((Int32.toUInt32 (2 : Int32)) &&& Int32.toUInt32 31)).toInt32) &&& (858993459 : Int32)))) >>> ((Int32.toUInt32 (4 : Int32)) &&& Int32.toUInt32 31)).toInt32)) &&& (252645135 : Int32)) + (((Int32.toUInt32 (((((x0 - ((((Int32.toUInt32 x0) >>> ((Int32.toUInt32 (1 : Int32)) &&& Int32.toUInt32 31)).toInt32) &&& (1431655765 : Int32))) &&& (858993459 : Int32)) + ((((Int32.toUInt32 (x0 - ((((Int32.toUInt32 x0) >>> ((Int32.toUInt32 (1 : Int32)) &&& Int32.toUInt32 31)).toInt32) &&& (1431655765 : Int32)))) >>> ((Int32.toUInt32 (2 : Int32)) &&& Int32.toUInt32 31)).toInt32) &&& (858993459 : Int32))) + (((Int32.toUInt32 (((x0 - ((((Int32.toUInt32 x0) >>> ((Int32.toUInt32 (1 : Int32)) &&& Int32.toUInt32 31)).toInt32) &&& (1431655765 : Int32))) &&& (858993459 : Int32)) + ((((Int32.toUInt32 (x0 - ((((Int32.toUInt32 x0) >>> ((Int32.toUInt32 (1 : Int32)) &&& Int32.toUInt32 31)).toInt32) &&& (1431655765 : Int32)))) >>> ((Int32.toUInt32 (2 : Int32)) &&& Int32.toUInt32 31)).toInt32) &&& (858993459 : Int32)))) >>> ((Int32.toUInt32 (4 : Int32)) &&& Int32.toUInt32 31)).toInt32)) &&& (252645135 : Int32))) >>> ((Int32.toUInt32 (8 : Int32)) &&& Int32.toUInt32 31)).toInt32))) >>> ((Int32.toUInt32 (16 : Int32)) &&& Int32.toUInt32 31)).toInt32))]) rfl rfl trivial ?_
  refine xw_G (pc' := 52) (st' := [.int ((((((((x0 - ((((Int32.toUInt32 x0) >>> ((Int32.toUInt32 (1 : Int32)) &&& Int32.toUInt32 31)).toInt32) &&& (1431655765 : Int32))) &&& (858993459 : Int32)) + ((((Int32.toUInt32 (x0 - ((((Int32.toUInt32 x0) >>> ((Int32.toUInt32 (1 : Int32)) &&& Int32.toUInt32 31)).toInt32) &&& (1431655765 : Int32)))) >>> ((Int32.toUInt32 (2 : Int32)) &&& Int32.toUInt32 31)).toInt32) &&& (858993459 : Int32))) + (((Int32.toUInt32 (((x0 - ((((Int32.toUInt32 x0) >>> ((Int32.toUInt32 (1 : Int32)) &&& Int32.toUInt32 31)).toInt32) &&& (1431655765 : Int32))) &&& (858993459 : Int32)) + ((((Int32.toUInt32 (x0 - ((((Int32.toUInt32 x0) >>> ((Int32.toUInt32 (1 : Int32)) &&& Int32.toUInt32 31)).toInt32) &&& (1431655765 : Int32)))) >>> ((Int32.toUInt32 (2 : Int32)) &&& Int32.toUInt32 31)).toInt32) &&& (858993459 : Int32)))) >>> ((Int32.toUInt32 (4 : Int32)) &&& Int32.toUInt32 31)).toInt32)) &&& (252645135 : Int32)) + (((Int32.toUInt32 (((((x0 - ((((Int32.toUInt32 x0) >>> ((Int32.toUInt32 (1 : Int32)) &&& Int32.toUInt32 31)).toInt32) &&& (1431655765 : Int32))) &&& (858993459 : Int32)) + ((((Int32.toUInt32 (x0 - ((((Int32.toUInt32 x0) >>> ((Int32.toUInt32 (1 : Int32)) &&& Int32.toUInt32 31)).toInt32) &&& (1431655765 : Int32)))) >>> ((Int32.toUInt32 (2 : Int32)) &&& Int32.toUInt32 31)).toInt32) &&& (858993459 : Int32))) + (((Int32.toUInt32 (((x0 - ((((Int32.toUInt32 x0) >>> ((Int32.toUInt32 (1 : Int32)) &&& Int32.toUInt32 31)).toInt32) &&& (1431655765 : Int32))) &&& (858993459 : Int32)) + ((((Int32.toUInt32 (x0 - ((((Int32.toUInt32 x0) >>> ((Int32.toUInt32 (1 : Int32)) &&& Int32.toUInt32 31)).toInt32) &&& (1431655765 : Int32)))) >>> ((Int32.toUInt32 (2 : Int32)) &&& Int32.toUInt32 31)).toInt32) &&& (858993459 : Int32)))) >>> ((Int32.toUInt32 (4 : Int32)) &&& Int32.toUInt32 31)).toInt32)) &&& (252645135 : Int32))) >>> ((Int32.toUInt32 (8 : Int32)) &&& Int32.toUInt32 31)).toInt32)) + (((Int32.toUInt32 ((((((x0 - ((((Int32.toUInt32 x0) >>> ((Int32.toUInt32 (1 : Int32)) &&& Int32.toUInt32 31)).toInt32) &&& (1431655765 : Int32))) &&& (858993459 : Int32)) + ((((Int32.toUInt32 (x0 - ((((Int32.toUInt32 x0) >>> ((Int32.toUInt32 (1 : Int32)) &&& Int32.toUInt32 31)).toInt32) &&& (1431655765 : Int32)))) >>> ((Int32.toUInt32 (2 : Int32)) &&& Int32.toUInt32 31)).toInt32) &&& (858993459 : Int32))) + (((Int32.toUInt32 (((x0 - ((((Int32.toUInt32 x0) >>> ((Int32.toUInt32 (1 : Int32)) &&& Int32.toUInt32 31)).toInt32) &&& (1431655765 : Int32))) &&& (858993459 : Int32)) + ((((Int32.toUInt32 (x0 - ((((Int32.toUInt32 x0) >>> ((Int32.toUInt32 (1 : Int32)) &&& Int32.toUInt32 31)).toInt32) &&& (1431655765 : Int32)))) >>> ((Int32.toUInt32 (2 : Int32)) &&& Int32.toUInt32 31)).toInt32) &&& (858993459 : Int32)))) >>> ((Int32.toUInt32 (4 : Int32)) &&& Int32.toUInt32 31)).toInt32)) &&& (252645135 : Int32)) + (((Int32.toUInt32 (((((x0 - ((((Int32.toUInt32 x0) >>> ((Int32.toUInt32 (1 : Int32)) &&& Int32.toUInt32 31)).toInt32) &&& (1431655765 : Int32))) &&& (858993459 : Int32)) + ((((Int32.toUInt32 (x0 - ((((Int32.toUInt32 x0) >>> ((Int32.toUInt32 (1 : Int32)) &&& Int32.toUInt32 31)).toInt32) &&& (1431655765 : Int32)))) >>> ((Int32.toUInt32 (2 : Int32)) &&& Int32.toUInt32 31)).toInt32) &&& (858993459 : Int32))) + (((Int32.toUInt32 (((x0 - ((((Int32.toUInt32 x0) >>> ((Int32.toUInt32 (1 : Int32)) &&& Int32.toUInt32 31)).toInt32) &&& (1431655765 : Int32))) &&& (858993459 : Int32)) + ((((Int32.toUInt32 (x0 - ((((Int32.toUInt32 x0) >>> ((Int32.toUInt32 (1 : Int32)) &&& Int32.toUInt32 31)).toInt32) &&& (1431655765 : Int32)))) >>> ((Int32.toUInt32 (2 : Int32)) &&& Int32.toUInt32 31)).toInt32) &&& (858993459 : Int32)))) >>> ((Int32.toUInt32 (4 : Int32)) &&& Int32.toUInt32 31)).toInt32)) &&& (252645135 : Int32))) >>> ((Int32.toUInt32 (8 : Int32)) &&& Int32.toUInt32 31)).toInt32))) >>> ((Int32.toUInt32 (16 : Int32)) &&& Int32.toUInt32 31)).toInt32)) &&& (63 : Int32))]) rfl rfl trivial ?_
  exact xr_i (inj := xji) rfl rfl rfl rfl hf hQ hS
