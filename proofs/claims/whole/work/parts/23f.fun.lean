/-! printed by wip/gen/gen23.py: methods as functions of their arguments and the heap -/
def f_L_bestFloor (N : Nat) (ρ : Nat) (x1 : Int32) (x2 : Int32) (x3 : Int32) (h : xm_H) : Option (Int32 × xm_H) := (xe (f_X10_bestFloor N ρ x1 x2 x3 h) (fun v1 h2 => (xl (xm_sl h2 316 0 (Int32.toInt64 v1)) fun h4 => (some ((0 : Int32), h4)))) (fun q6 h7 => (if (q6).1 = 14 then (some ((1 : Int32), h7)) else (if (q6).1 = 15 then (some ((2 : Int32), h7)) else none))))
theorem t_L_bestFloor {N : Nat} {ρ : Nat} {δ : Nat} {x1 : Int32} {x2 : Int32} {x3 : Int32} {h : xm_H} {w : Int32 × xm_H}  (hS : xS ρ δ h) (hf : f_L_bestFloor N ρ x1 x2 x3 h = some w) : xm_Rn xX 7 341 [.ref 160, .int x1, .int x2, .int x3, .ref 316] h (xji w.1) w.2 ∧ xS ρ δ w.2 := by
  refine xt_mk (φ := fun h => xS ρ δ h) (M := xM_L_bestFloor) (ls := [some (.ref 160), some (.int x1), some (.int x2), some (.int x3), some (.ref 316), none]) rfl (Nat.le_of_ble_eq_true rfl) rfl (fun Q hQ => ?_)
  unfold f_L_bestFloor at hf
  refine xw_G (pc' := 2) (st' := [.ref 316]) rfl rfl trivial ?_
  refine xw_G (pc' := 3) (st' := [.int (0 : Int32), .ref 316]) rfl rfl trivial ?_
  refine xw_G (pc' := 4) (st' := [.ref 160, .int (0 : Int32), .ref 316]) rfl rfl trivial ?_
  refine xw_G (pc' := 5) (st' := [.int x1, .ref 160, .int (0 : Int32), .ref 316]) rfl rfl trivial ?_
  refine xw_G (pc' := 6) (st' := [.int x2, .int x1, .ref 160, .int (0 : Int32), .ref 316]) rfl rfl trivial ?_
  refine xw_G (pc' := 7) (st' := [.int x3, .int x2, .int x1, .ref 160, .int (0 : Int32), .ref 316]) rfl rfl trivial ?_
  refine xe_e hf (fun v1 h2 e3 hf => ?_) (fun q6 h7 e3 hf => ?_)
  · refine xw_V (v := some (.int v1)) rfl rfl (xkf (xs_k hS rfl rfl : xm_k h 160 = (0, 0))) (Nat.le_of_ble_eq_true rfl) (Nat.le_of_ble_eq_true rfl) (xm_Rn_le (Nat.le_of_ble_eq_true rfl) (t_X10_bestFloor  hS e3).1) ?_
    have hS := (t_X10_bestFloor  hS e3).2
    show xm_W _ _ _ 10 _ [.int v1, .int (0 : Int32), .ref 316] _
    refine xw_G (pc' := 11) (st' := [.long (Int32.toInt64 v1), .int (0 : Int32), .ref 316]) rfl rfl trivial ?_
    refine xa_l rfl (xkf (xs_k hS rfl rfl : xm_k h2 316 = (104, 1))) (xkn (xs_k hS rfl rfl : xm_k h2 316 = (104, 1))) (by decide : xin (0 : Int32) 1) (Nat.le_of_ble_eq_true rfl) hf (fun h4 e5 hf => ?_)
    have hS := xS_sl hS e5
    refine xw_G (pc' := 23) (st' := []) rfl rfl trivial ?_
    refine xw_G (pc' := 24) (st' := [.int (0 : Int32)]) rfl rfl trivial ?_
    exact xr_i (inj := xji) rfl rfl rfl rfl hf hQ hS
  · by_cases hc8 : (q6).1 = 14
    · rw [if_pos hc8] at hf
      refine xw_VH (x := q6) (p := 15) rfl rfl (xkf (xs_k hS rfl rfl : xm_k h 160 = (0, 0))) (Nat.le_of_ble_eq_true rfl) (Nat.le_of_ble_eq_true rfl) (xm_Rn_le (Nat.le_of_ble_eq_true rfl) (t_X10_bestFloor  hS e3).1) (by rw [hc8]; rfl) ?_
      have hS := (t_X10_bestFloor  hS e3).2
      refine xw_G (pc' := 17) (ls' := [some (.ref 160), some (.int x1), some (.int x2), some (.int x3), some (.ref 316), some (.ref ((q6).2))]) (st' := []) rfl rfl (Nat.le_of_ble_eq_true rfl) ?_
      refine xw_G (pc' := 18) (st' := [.int (1 : Int32)]) rfl rfl trivial ?_
      exact xr_i (inj := xji) rfl rfl rfl rfl hf hQ hS
    · rw [if_neg hc8] at hf
      by_cases hc8 : (q6).1 = 15
      · rw [if_pos hc8] at hf
        refine xw_VH (x := q6) (p := 19) rfl rfl (xkf (xs_k hS rfl rfl : xm_k h 160 = (0, 0))) (Nat.le_of_ble_eq_true rfl) (Nat.le_of_ble_eq_true rfl) (xm_Rn_le (Nat.le_of_ble_eq_true rfl) (t_X10_bestFloor  hS e3).1) (by rw [hc8]; rfl) ?_
        have hS := (t_X10_bestFloor  hS e3).2
        refine xw_G (pc' := 21) (ls' := [some (.ref 160), some (.int x1), some (.int x2), some (.int x3), some (.ref 316), some (.ref ((q6).2))]) (st' := []) rfl rfl (Nat.le_of_ble_eq_true rfl) ?_
        refine xw_G (pc' := 22) (st' := [.int (2 : Int32)]) rfl rfl trivial ?_
        exact xr_i (inj := xji) rfl rfl rfl rfl hf hQ hS
      · rw [if_neg hc8] at hf
        exact (xn_e hf).elim
def f_X11_sumOfPrices_4B (N : Nat) (rec : Int32 → Int32 → xm_H → Option (Int32 × xm_H)) (c1 : Int32) (c2 : Int32) (h : xm_H) : Option (Int32 × xm_H) := (if c2 < (xm_i h 302 28) then (if xin c2 4 then (rec (c1 + (xm_i h 314 (Int32.toNatClampNeg c2))) (c2 + (1 : Int32)) h) else none) else (some (c1, h)))
def f_X11_sumOfPrices_4 (N : Nat) : Nat → Int32 → Int32 → xm_H → Option (Int32 × xm_H)
  | 0 => fun _ _ _ => none
  | n + 1 => fun c1 c2 h => f_X11_sumOfPrices_4B N (f_X11_sumOfPrices_4 N n) c1 c2 h
def f_X11_sumOfPrices (N : Nat) (h : xm_H) : Option (Int32 × xm_H) := (f_X11_sumOfPrices_4 N N (0 : Int32) (0 : Int32) h)
theorem tl_X11_sumOfPrices_4 {ρ : Nat} {δ : Nat} {N : Nat} {Q : xm_O → xm_H → Prop} {w : Int32 × xm_H}  (hQ : xS ρ δ w.2 → Q (xji w.1) w.2)  : ∀ (n : Nat) (c1 : Int32) (c2 : Int32) (h : xm_H), xS ρ δ h → f_X11_sumOfPrices_4 N n c1 c2 h = some w → xm_W (xm_Rn xX 0) xM_X11_sumOfPrices Q 4 [some (.ref 302), some (.int c1), some (.int c2)] [] h := by
  intro n
  induction n with
  | zero =>
    intro c1 c2 h hS hf
    exact (xn_e hf).elim
  | succ n ih =>
    intro c1 c2 h hS hf
    replace hf : f_X11_sumOfPrices_4B N (f_X11_sumOfPrices_4 N n) c1 c2 h = some w := hf
    unfold f_X11_sumOfPrices_4B at hf
    refine xw_K (pc' := 5) (ls' := [some (.ref 302), some (.int c1), some (.int c2)]) (st' := [.int c2]) rfl rfl trivial ?_
    refine xw_G (pc' := 6) (st' := [.ref 302, .int c2]) rfl rfl trivial ?_
    refine xw_G (pc' := 9) (st' := [.int (xm_i h 302 28), .int c2]) rfl rfl (xkf (xs_k hS rfl rfl : xm_k h 302 = (11, 0))) ?_
    refine xj_ic_ge rfl hf (fun hc1 hf => ?_) (fun hc1 hf => ?_)
    · refine xw_G (pc' := 13) (st' := [.int c1]) rfl rfl trivial ?_
      refine xw_G (pc' := 14) (st' := [.ref 302, .int c1]) rfl rfl trivial ?_
      refine xw_gr rfl (xkf (xs_k hS rfl rfl : xm_k h 302 = (11, 0))) (xs_r hS rfl) ?_
      refine xw_G (pc' := 18) (st' := [.int c2, .ref 314, .int c1]) rfl rfl trivial ?_
      refine xg_e hf (fun hg2 hf => ?_)
      refine xa_ld (t := 100) (τ := 0) (v := .int (xm_i h 314 (Int32.toNatClampNeg c2))) rfl rfl (xkf (xs_k hS rfl rfl : xm_k h 314 = (100, 4))) (xkn (xs_k hS rfl rfl : xm_k h 314 = (100, 4))) hg2 rfl ?_
      refine xw_G (pc' := 20) (st' := [.int (c1 + (xm_i h 314 (Int32.toNatClampNeg c2)))]) rfl rfl trivial ?_
      refine xw_G (pc' := 21) (ls' := [some (.ref 302), some (.int (c1 + (xm_i h 314 (Int32.toNatClampNeg c2)))), some (.int c2)]) (st' := []) rfl rfl (Nat.le_of_ble_eq_true rfl) ?_
      refine xw_G (pc' := 24) (ls' := [some (.ref 302), some (.int (c1 + (xm_i h 314 (Int32.toNatClampNeg c2)))), some (.int (c2 + (1 : Int32)))]) (st' := []) rfl rfl (Nat.le_of_ble_eq_true rfl) ?_
      refine xw_G (pc' := 4) (st' := []) rfl rfl trivial ?_
      refine xw_M rfl rfl ?_
      exact ih _ _ _ hS hf
    · refine xw_G (pc' := 28) (st' := [.int c1]) rfl rfl trivial ?_
      exact xr_i (inj := xji) rfl rfl rfl rfl hf hQ hS
theorem t_X11_sumOfPrices {N : Nat} {ρ : Nat} {δ : Nat} {h : xm_H} {w : Int32 × xm_H}  (hS : xS ρ δ h) (hf : f_X11_sumOfPrices N h = some w) : xm_Rn xX 1 206 [.ref 302] h (xji w.1) w.2 ∧ xS ρ δ w.2 := by
  refine xt_mk (φ := fun h => xS ρ δ h) (M := xM_X11_sumOfPrices) (ls := [some (.ref 302), none, none]) rfl (Nat.le_of_ble_eq_true rfl) rfl (fun Q hQ => ?_)
  unfold f_X11_sumOfPrices at hf
  refine xw_G (pc' := 1) (st' := [.int (0 : Int32)]) rfl rfl trivial ?_
  refine xw_G (pc' := 2) (ls' := [some (.ref 302), some (.int (0 : Int32)), none]) (st' := []) rfl rfl (Nat.le_of_ble_eq_true rfl) ?_
  refine xw_G (pc' := 3) (st' := [.int (0 : Int32)]) rfl rfl trivial ?_
  refine xw_G (pc' := 4) (ls' := [some (.ref 302), some (.int (0 : Int32)), some (.int (0 : Int32))]) (st' := []) rfl rfl (Nat.le_of_ble_eq_true rfl) ?_
  refine xw_M rfl rfl ?_
  refine tl_X11_sumOfPrices_4  hQ  _ _ _ _ hS hf
def f_X11_bestFloor_40B (N : Nat) (c1 : Int32) (c2 : Int32) (c3 : Int32) (c4 : Int32) (k93 : Int32 → xm_H → Option (Int32 × xm_H)) (rec : Int32 → Int32 → Int32 → xm_H → Option (Int32 × xm_H)) (c5 : Int32) (c6 : Int32) (c7 : Int32) (h : xm_H) : Option (Int32 × xm_H) := (if (999 : Int32) < c7 then (k93 c5 h) else (if xin ((51 : Int32) + c2) 2217 then (xl (xm_si h 303 (Int32.toNatClampNeg ((51 : Int32) + c2)) c7) fun h3 => (xb (f_X11_auction N c1 c2 c3 h3) fun v5 h6 => (xb (f_X11_sumOfPrices N h6) fun v8 h9 => (if c6 < v8 then (rec c7 v8 (c7 + (1 : Int32)) h9) else (rec c5 c6 (c7 + (1 : Int32)) h9))))) else none))
def f_X11_bestFloor_40 (N : Nat) (c1 : Int32) (c2 : Int32) (c3 : Int32) (c4 : Int32) (k93 : Int32 → xm_H → Option (Int32 × xm_H)) : Nat → Int32 → Int32 → Int32 → xm_H → Option (Int32 × xm_H)
  | 0 => fun _ _ _ _ => none
  | n + 1 => fun c5 c6 c7 h => f_X11_bestFloor_40B N c1 c2 c3 c4 k93 (f_X11_bestFloor_40 N c1 c2 c3 c4 k93 n) c5 c6 c7 h
def f_X11_bestFloor (N : Nat) (x1 : Int32) (x2 : Int32) (x3 : Int32) (h : xm_H) : Option (Int32 × xm_H) := (xb (f_X11_isTag x2 h) fun v1 h2 => (xb (f_X11_isRequest x1 x3 h2) fun v4 h5 => (xb (f_X11_good_ v1 v4 h5) fun v7 h8 => (if v7 = 0 then (some ((0 : Int32), h8)) else (if xin ((51 : Int32) + x2) 2217 then (f_X11_bestFloor_40 N x1 x2 x3 (xm_i h8 303 (Int32.toNatClampNeg ((51 : Int32) + x2))) (fun (e12 : Int32) (h13 : xm_H) => (xl (xm_si h13 303 (Int32.toNatClampNeg ((51 : Int32) + x2)) (xm_i h8 303 (Int32.toNatClampNeg ((51 : Int32) + x2)))) fun h14 => (some (e12, h14)))) N (0 : Int32) (-1 : Int32) (0 : Int32) h8) else none)))))
theorem tl_X11_bestFloor_40 {ρ : Nat} {δ : Nat} {N : Nat} {c1 : Int32} {c2 : Int32} {c3 : Int32} {c4 : Int32} {k93 : Int32 → xm_H → Option (Int32 × xm_H)} {Q : xm_O → xm_H → Prop} {w : Int32 × xm_H}  (hQ : xS ρ δ w.2 → Q (xji w.1) w.2) (hk93 : ∀ (a0 : Int32) (h : xm_H), xS ρ δ h → k93 a0 h = some w → xm_W (xm_Rn xX 4) xM_X11_bestFloor Q 93 [some (.ref 302), none, some (.int c2), none, some (.int c4), some (.int a0), none, none, none] [] h) : ∀ (n : Nat) (c5 : Int32) (c6 : Int32) (c7 : Int32) (h : xm_H), xS ρ δ h → f_X11_bestFloor_40 N c1 c2 c3 c4 k93 n c5 c6 c7 h = some w → xm_W (xm_Rn xX 4) xM_X11_bestFloor Q 40 [some (.ref 302), some (.int c1), some (.int c2), some (.int c3), some (.int c4), some (.int c5), some (.int c6), some (.int c7), none] [] h := by
  intro n
  induction n with
  | zero =>
    intro c5 c6 c7 h hS hf
    exact (xn_e hf).elim
  | succ n ih =>
    intro c5 c6 c7 h hS hf
    replace hf : f_X11_bestFloor_40B N c1 c2 c3 c4 k93 (f_X11_bestFloor_40 N c1 c2 c3 c4 k93 n) c5 c6 c7 h = some w := hf
    unfold f_X11_bestFloor_40B at hf
    refine xw_K (pc' := 42) (ls' := [some (.ref 302), some (.int c1), some (.int c2), some (.int c3), some (.int c4), some (.int c5), some (.int c6), some (.int c7), none]) (st' := [.int c7]) rfl rfl trivial ?_
    refine xw_G (pc' := 45) (st' := [.int (999 : Int32), .int c7]) rfl rfl trivial ?_
    refine xj_ic_gt rfl hf (fun hc1 hf => ?_) (fun hc1 hf => ?_)
    · refine xw_M rfl rfl ?_
      exact hk93 _ _ hS hf
    · refine xw_G (pc' := 49) (st' := [.ref 302]) rfl rfl trivial ?_
      refine xw_gr rfl (xkf (xs_k hS rfl rfl : xm_k h 302 = (11, 0))) (xs_r hS rfl) ?_
      refine xw_G (pc' := 54) (st' := [.int (51 : Int32), .ref 303]) rfl rfl trivial ?_
      refine xw_G (pc' := 55) (st' := [.int c2, .int (51 : Int32), .ref 303]) rfl rfl trivial ?_
      refine xw_G (pc' := 56) (st' := [.int ((51 : Int32) + c2), .ref 303]) rfl rfl trivial ?_
      refine xw_G (pc' := 58) (st' := [.int c7, .int ((51 : Int32) + c2), .ref 303]) rfl rfl trivial ?_
      refine xg_e hf (fun hg2 hf => ?_)
      refine xa_i rfl (xkf (xs_k hS rfl rfl : xm_k h 303 = (100, 2217))) (xkn (xs_k hS rfl rfl : xm_k h 303 = (100, 2217))) hg2 (Nat.le_of_ble_eq_true rfl) hf (fun h3 e4 hf => ?_)
      have hS := xS_si hS e4
      refine xw_G (pc' := 60) (st' := [.ref 302]) rfl rfl trivial ?_
      refine xw_G (pc' := 61) (st' := [.int c1, .ref 302]) rfl rfl trivial ?_
      refine xw_G (pc' := 62) (st' := [.int c2, .int c1, .ref 302]) rfl rfl trivial ?_
      refine xw_G (pc' := 63) (st' := [.int c3, .int c2, .int c1, .ref 302]) rfl rfl trivial ?_
      refine xb_e hf (fun v5 h6 e7 hf => ?_)
      refine xw_V (v := none) rfl rfl (xkf (xs_k hS rfl rfl : xm_k h3 302 = (11, 0))) (Nat.le_of_ble_eq_true rfl) (Nat.le_of_ble_eq_true rfl) (xm_Rn_le (Nat.le_of_ble_eq_true rfl) (t_X11_auction  hS e7).1) ?_
      have hS := (t_X11_auction  hS e7).2
      show xm_W _ _ _ 66 _ [] _
      refine xw_G (pc' := 67) (st' := [.ref 302]) rfl rfl trivial ?_
      refine xb_e hf (fun v8 h9 e10 hf => ?_)
      refine xw_V (v := some (.int v8)) rfl rfl (xkf (xs_k hS rfl rfl : xm_k h6 302 = (11, 0))) (Nat.le_of_ble_eq_true rfl) (Nat.le_of_ble_eq_true rfl) (xm_Rn_le (Nat.le_of_ble_eq_true rfl) (t_X11_sumOfPrices  hS e10).1) ?_
      have hS := (t_X11_sumOfPrices  hS e10).2
      show xm_W _ _ _ 70 _ [.int v8] _
      refine xw_G (pc' := 72) (ls' := [some (.ref 302), some (.int c1), some (.int c2), some (.int c3), some (.int c4), some (.int c5), some (.int c6), some (.int c7), some (.int v8)]) (st' := []) rfl rfl (Nat.le_of_ble_eq_true rfl) ?_
      refine xw_G (pc' := 74) (st' := [.int v8]) rfl rfl trivial ?_
      refine xw_G (pc' := 76) (st' := [.int c6, .int v8]) rfl rfl trivial ?_
      refine xj_ic_le rfl hf (fun hc11 hf => ?_) (fun hc11 hf => ?_)
      · refine xw_G (pc' := 81) (st' := [.int c7]) rfl rfl trivial ?_
        refine xw_G (pc' := 83) (ls' := [some (.ref 302), some (.int c1), some (.int c2), some (.int c3), some (.int c4), some (.int c7), some (.int c6), some (.int c7), some (.int v8)]) (st' := []) rfl rfl (Nat.le_of_ble_eq_true rfl) ?_
        refine xw_G (pc' := 85) (st' := [.int v8]) rfl rfl trivial ?_
        refine xw_G (pc' := 87) (ls' := [some (.ref 302), some (.int c1), some (.int c2), some (.int c3), some (.int c4), some (.int c7), some (.int v8), some (.int c7), some (.int v8)]) (st' := []) rfl rfl (Nat.le_of_ble_eq_true rfl) ?_
        refine xw_G (pc' := 90) (ls' := [some (.ref 302), some (.int c1), some (.int c2), some (.int c3), some (.int c4), some (.int c7), some (.int v8), some (.int (c7 + (1 : Int32))), some (.int v8)]) (st' := []) rfl rfl (Nat.le_of_ble_eq_true rfl) ?_
        refine xw_G (pc' := 40) (st' := []) rfl rfl trivial ?_
        refine xw_M rfl rfl ?_
        exact ih _ _ _ _ hS hf
      · refine xw_G (pc' := 90) (ls' := [some (.ref 302), some (.int c1), some (.int c2), some (.int c3), some (.int c4), some (.int c5), some (.int c6), some (.int (c7 + (1 : Int32))), some (.int v8)]) (st' := []) rfl rfl (Nat.le_of_ble_eq_true rfl) ?_
        refine xw_G (pc' := 40) (st' := []) rfl rfl trivial ?_
        refine xw_M rfl rfl ?_
        exact ih _ _ _ _ hS hf
theorem t_X11_bestFloor {N : Nat} {ρ : Nat} {δ : Nat} {x1 : Int32} {x2 : Int32} {x3 : Int32} {h : xm_H} {w : Int32 × xm_H}  (hS : xS ρ δ h) (hf : f_X11_bestFloor N x1 x2 x3 h = some w) : xm_Rn xX 5 207 [.ref 302, .int x1, .int x2, .int x3] h (xji w.1) w.2 ∧ xS ρ δ w.2 := by
  refine xt_mk (φ := fun h => xS ρ δ h) (M := xM_X11_bestFloor) (ls := [some (.ref 302), some (.int x1), some (.int x2), some (.int x3), none, none, none, none, none]) rfl (Nat.le_of_ble_eq_true rfl) rfl (fun Q hQ => ?_)
  unfold f_X11_bestFloor at hf
  refine xw_G (pc' := 1) (st' := [.ref 302]) rfl rfl trivial ?_
  refine xw_G (pc' := 2) (st' := [.ref 302, .ref 302]) rfl rfl trivial ?_
  refine xw_G (pc' := 3) (st' := [.int x2, .ref 302, .ref 302]) rfl rfl trivial ?_
  refine xb_e hf (fun v1 h2 e3 hf => ?_)
  refine xw_V (v := some (.int v1)) rfl rfl (xkf (xs_k hS rfl rfl : xm_k h 302 = (11, 0))) (Nat.le_of_ble_eq_true rfl) (Nat.le_of_ble_eq_true rfl) (xm_Rn_le (Nat.le_of_ble_eq_true rfl) (t_X11_isTag  hS e3).1) ?_
  have hS := (t_X11_isTag  hS e3).2
  show xm_W _ _ _ 6 _ [.int v1, .ref 302] _
  refine xw_G (pc' := 7) (st' := [.ref 302, .int v1, .ref 302]) rfl rfl trivial ?_
  refine xw_G (pc' := 8) (st' := [.int x1, .ref 302, .int v1, .ref 302]) rfl rfl trivial ?_
  refine xw_G (pc' := 9) (st' := [.int x3, .int x1, .ref 302, .int v1, .ref 302]) rfl rfl trivial ?_
  refine xb_e hf (fun v4 h5 e6 hf => ?_)
  refine xw_V (v := some (.int v4)) rfl rfl (xkf (xs_k hS rfl rfl : xm_k h2 302 = (11, 0))) (Nat.le_of_ble_eq_true rfl) (Nat.le_of_ble_eq_true rfl) (xm_Rn_le (Nat.le_of_ble_eq_true rfl) (t_X11_isRequest  hS e6).1) ?_
  have hS := (t_X11_isRequest  hS e6).2
  show xm_W _ _ _ 12 _ [.int v4, .int v1, .ref 302] _
  refine xb_e hf (fun v7 h8 e9 hf => ?_)
  refine xw_V (v := some (.int v7)) rfl rfl (xkf (xs_k hS rfl rfl : xm_k h5 302 = (11, 0))) (Nat.le_of_ble_eq_true rfl) (Nat.le_of_ble_eq_true rfl) (xm_Rn_le (Nat.le_of_ble_eq_true rfl) (t_X11_good_  hS e9).1) ?_
  have hS := (t_X11_good_  hS e9).2
  show xm_W _ _ _ 15 _ [.int v7] _
  refine xj_if_ne rfl hf (fun hc10 hf => ?_) (fun hc10 hf => ?_)
  · refine xw_G (pc' := 19) (st' := [.int (0 : Int32)]) rfl rfl trivial ?_
    exact xr_i (inj := xji) rfl rfl rfl rfl hf hQ hS
  · refine xw_G (pc' := 21) (st' := [.ref 302]) rfl rfl trivial ?_
    refine xw_gr rfl (xkf (xs_k hS rfl rfl : xm_k h8 302 = (11, 0))) (xs_r hS rfl) ?_
    refine xw_G (pc' := 26) (st' := [.int (51 : Int32), .ref 303]) rfl rfl trivial ?_
    refine xw_G (pc' := 27) (st' := [.int x2, .int (51 : Int32), .ref 303]) rfl rfl trivial ?_
    refine xw_G (pc' := 28) (st' := [.int ((51 : Int32) + x2), .ref 303]) rfl rfl trivial ?_
    refine xg_e hf (fun hg11 hf => ?_)
    refine xa_ld (t := 100) (τ := 0) (v := .int (xm_i h8 303 (Int32.toNatClampNeg ((51 : Int32) + x2)))) rfl rfl (xkf (xs_k hS rfl rfl : xm_k h8 303 = (100, 2217))) (xkn (xs_k hS rfl rfl : xm_k h8 303 = (100, 2217))) hg11 rfl ?_
    refine xw_G (pc' := 31) (ls' := [some (.ref 302), some (.int x1), some (.int x2), some (.int x3), some (.int (xm_i h8 303 (Int32.toNatClampNeg ((51 : Int32) + x2)))), none, none, none, none]) (st' := []) rfl rfl (Nat.le_of_ble_eq_true rfl) ?_
    refine xw_G (pc' := 32) (st' := [.int (0 : Int32)]) rfl rfl trivial ?_
    refine xw_G (pc' := 34) (ls' := [some (.ref 302), some (.int x1), some (.int x2), some (.int x3), some (.int (xm_i h8 303 (Int32.toNatClampNeg ((51 : Int32) + x2)))), some (.int (0 : Int32)), none, none, none]) (st' := []) rfl rfl (Nat.le_of_ble_eq_true rfl) ?_
    refine xw_G (pc' := 35) (st' := [.int (-1 : Int32)]) rfl rfl trivial ?_
    refine xw_G (pc' := 37) (ls' := [some (.ref 302), some (.int x1), some (.int x2), some (.int x3), some (.int (xm_i h8 303 (Int32.toNatClampNeg ((51 : Int32) + x2)))), some (.int (0 : Int32)), some (.int (-1 : Int32)), none, none]) (st' := []) rfl rfl (Nat.le_of_ble_eq_true rfl) ?_
    refine xw_G (pc' := 38) (st' := [.int (0 : Int32)]) rfl rfl trivial ?_
    refine xw_G (pc' := 40) (ls' := [some (.ref 302), some (.int x1), some (.int x2), some (.int x3), some (.int (xm_i h8 303 (Int32.toNatClampNeg ((51 : Int32) + x2)))), some (.int (0 : Int32)), some (.int (-1 : Int32)), some (.int (0 : Int32)), none]) (st' := []) rfl rfl (Nat.le_of_ble_eq_true rfl) ?_
    refine xw_M rfl rfl ?_
    refine tl_X11_bestFloor_40  hQ (fun e12 h13 hS hf => ?_) _ _ _ _ _ hS hf
    refine xw_K (pc' := 94) (ls' := [some (.ref 302), none, some (.int x2), none, some (.int (xm_i h8 303 (Int32.toNatClampNeg ((51 : Int32) + x2)))), some (.int e12), none, none, none]) (st' := [.ref 302]) rfl rfl trivial ?_
    refine xw_gr rfl (xkf (xs_k hS rfl rfl : xm_k h13 302 = (11, 0))) (xs_r hS rfl) ?_
    refine xw_G (pc' := 99) (st' := [.int (51 : Int32), .ref 303]) rfl rfl trivial ?_
    refine xw_G (pc' := 100) (st' := [.int x2, .int (51 : Int32), .ref 303]) rfl rfl trivial ?_
    refine xw_G (pc' := 101) (st' := [.int ((51 : Int32) + x2), .ref 303]) rfl rfl trivial ?_
    refine xw_G (pc' := 103) (st' := [.int (xm_i h8 303 (Int32.toNatClampNeg ((51 : Int32) + x2))), .int ((51 : Int32) + x2), .ref 303]) rfl rfl trivial ?_
    refine xa_i rfl (xkf (xs_k hS rfl rfl : xm_k h13 303 = (100, 2217))) (xkn (xs_k hS rfl rfl : xm_k h13 303 = (100, 2217))) hg11 (Nat.le_of_ble_eq_true rfl) hf (fun h14 e15 hf => ?_)
    have hS := xS_si hS e15
    refine xw_G (pc' := 106) (st' := [.int e12]) rfl rfl trivial ?_
    exact xr_i (inj := xji) rfl rfl rfl rfl hf hQ hS
def f_X7_copy (x0 : Nat) (x1 : Nat) (h : xm_H) : Option (Unit × xm_H) := (xl (xm_si h x0 0 (xm_i h x1 0)) fun h1 => (xl (xm_si h1 x0 1 (xm_i h1 x1 1)) fun h3 => (xl (xm_si h3 x0 2 (xm_i h3 x1 2)) fun h5 => (xl (xm_si h5 x0 3 (xm_i h5 x1 3)) fun h7 => (xl (xm_cp h7 (x1 + 1) 0 (x0 + 1) 0 6) fun h9 => (xl (xm_cp h9 (x1 + 2) 0 (x0 + 2) 0 8) fun h11 => (xl (xm_cp h11 (x1 + 3) 0 (x0 + 3) 0 8) fun h13 => (xl (xm_cp h13 (x1 + 4) 0 (x0 + 4) 0 8) fun h15 => (xl (xm_cp h15 (x1 + 5) 0 (x0 + 5) 0 8) fun h17 => (xl (xm_cp h17 (x1 + 6) 0 (x0 + 6) 0 8) fun h19 => (if ∀ i, i < 8 → fits (xm_ty 1) (.int (xm_i h19 (x1 + 7) (0 + i))) = true then (xl (xm_cp h19 (x1 + 7) 0 (x0 + 7) 0 8) fun h22 => (some ((), h22))) else none)))))))))))
theorem t_X7_copy {ρ : Nat} {δ : Nat} {x0 : Nat} {x1 : Nat} {h : xm_H} {w : Unit × xm_H} (hx0 : xIsS x0) (hx1 : xIsS x1) (hS : xS ρ δ h) (hf : f_X7_copy x0 x1 h = some w) : xm_Rn xX 1 62 [.ref x0, .ref x1] h (xjv w.1) w.2 ∧ xS ρ δ w.2 := by
  refine xt_mk (φ := fun h => xS ρ δ h) (M := xM_X7_copy) (ls := [some (.ref x0), some (.ref x1)]) rfl (Nat.le_of_ble_eq_true rfl) rfl (fun Q hQ => ?_)
  unfold f_X7_copy at hf
  refine xw_G (pc' := 1) (st' := [.ref x0]) rfl rfl trivial ?_
  refine xw_G (pc' := 2) (st' := [.ref x1, .ref x0]) rfl rfl trivial ?_
  refine xw_G (pc' := 5) (st' := [.int (xm_i h x1 0), .ref x0]) rfl rfl (xkf (xsS0 hS hx1)) ?_
  refine xp_i rfl (xkf (xsS0 hS hx0)) (hx0.ge 0) hf (fun h1 e2 hf => ?_)
  have hS := xS_si hS e2
  refine xw_G (pc' := 9) (st' := [.ref x0]) rfl rfl trivial ?_
  refine xw_G (pc' := 10) (st' := [.ref x1, .ref x0]) rfl rfl trivial ?_
  refine xw_G (pc' := 13) (st' := [.int (xm_i h1 x1 1), .ref x0]) rfl rfl (xkf (xsS0 hS hx1)) ?_
  refine xp_i rfl (xkf (xsS0 hS hx0)) (hx0.ge 0) hf (fun h3 e4 hf => ?_)
  have hS := xS_si hS e4
  refine xw_G (pc' := 17) (st' := [.ref x0]) rfl rfl trivial ?_
  refine xw_G (pc' := 18) (st' := [.ref x1, .ref x0]) rfl rfl trivial ?_
  refine xw_G (pc' := 21) (st' := [.int (xm_i h3 x1 2), .ref x0]) rfl rfl (xkf (xsS0 hS hx1)) ?_
  refine xp_i rfl (xkf (xsS0 hS hx0)) (hx0.ge 0) hf (fun h5 e6 hf => ?_)
  have hS := xS_si hS e6
  refine xw_G (pc' := 25) (st' := [.ref x0]) rfl rfl trivial ?_
  refine xw_G (pc' := 26) (st' := [.ref x1, .ref x0]) rfl rfl trivial ?_
  refine xw_G (pc' := 29) (st' := [.int (xm_i h5 x1 3), .ref x0]) rfl rfl (xkf (xsS0 hS hx1)) ?_
  refine xp_i rfl (xkf (xsS0 hS hx0)) (hx0.ge 0) hf (fun h7 e8 hf => ?_)
  have hS := xS_si hS e8
  refine xw_G (pc' := 33) (st' := [.ref x1]) rfl rfl trivial ?_
  refine xw_gr rfl (xkf (xsS0 hS hx1)) (xsSr4 hS hx1) ?_
  refine xw_G (pc' := 37) (st' := [.int (0 : Int32), .ref (x1 + 1)]) rfl rfl trivial ?_
  refine xw_G (pc' := 38) (st' := [.ref x0, .int (0 : Int32), .ref (x1 + 1)]) rfl rfl trivial ?_
  refine xw_gr rfl (xkf (xsS0 hS hx0)) (xsSr4 hS hx0) ?_
  refine xw_G (pc' := 42) (st' := [.int (0 : Int32), .ref (x0 + 1), .int (0 : Int32), .ref (x1 + 1)]) rfl rfl trivial ?_
  refine xw_G (pc' := 44) (st' := [.int (6 : Int32), .int (0 : Int32), .ref (x0 + 1), .int (0 : Int32), .ref (x1 + 1)]) rfl rfl trivial ?_
  refine xa_cp rfl (fun _ _ => rfl) (xkf (xsS1 hS hx1)) (xkf (xsS1 hS hx0)) (hx0.ge 1) (by decide) (by decide) (by decide) (by rw [(xkn (xsS1 hS hx1))]; exact (Nat.le_of_ble_eq_true rfl)) (by rw [(xkn (xsS1 hS hx0))]; exact (Nat.le_of_ble_eq_true rfl)) (Nat.le_of_ble_eq_true rfl) hf (fun h9 e10 hf => ?_)
  have hS := xS_cp hS e10
  refine xw_G (pc' := 48) (st' := [.ref x1]) rfl rfl trivial ?_
  refine xw_gr rfl (xkf (xsS0 hS hx1)) (xsSr5 hS hx1) ?_
  refine xw_G (pc' := 52) (st' := [.int (0 : Int32), .ref (x1 + 2)]) rfl rfl trivial ?_
  refine xw_G (pc' := 53) (st' := [.ref x0, .int (0 : Int32), .ref (x1 + 2)]) rfl rfl trivial ?_
  refine xw_gr rfl (xkf (xsS0 hS hx0)) (xsSr5 hS hx0) ?_
  refine xw_G (pc' := 57) (st' := [.int (0 : Int32), .ref (x0 + 2), .int (0 : Int32), .ref (x1 + 2)]) rfl rfl trivial ?_
  refine xw_G (pc' := 59) (st' := [.int (8 : Int32), .int (0 : Int32), .ref (x0 + 2), .int (0 : Int32), .ref (x1 + 2)]) rfl rfl trivial ?_
  refine xa_cp rfl (fun _ _ => rfl) (xkf (xsS2 hS hx1)) (xkf (xsS2 hS hx0)) (hx0.ge 2) (by decide) (by decide) (by decide) (by rw [(xkn (xsS2 hS hx1))]; exact (Nat.le_of_ble_eq_true rfl)) (by rw [(xkn (xsS2 hS hx0))]; exact (Nat.le_of_ble_eq_true rfl)) (Nat.le_of_ble_eq_true rfl) hf (fun h11 e12 hf => ?_)
  have hS := xS_cp hS e12
  refine xw_G (pc' := 63) (st' := [.ref x1]) rfl rfl trivial ?_
  refine xw_gr rfl (xkf (xsS0 hS hx1)) (xsSr6 hS hx1) ?_
  refine xw_G (pc' := 67) (st' := [.int (0 : Int32), .ref (x1 + 3)]) rfl rfl trivial ?_
  refine xw_G (pc' := 68) (st' := [.ref x0, .int (0 : Int32), .ref (x1 + 3)]) rfl rfl trivial ?_
  refine xw_gr rfl (xkf (xsS0 hS hx0)) (xsSr6 hS hx0) ?_
  refine xw_G (pc' := 72) (st' := [.int (0 : Int32), .ref (x0 + 3), .int (0 : Int32), .ref (x1 + 3)]) rfl rfl trivial ?_
  refine xw_G (pc' := 74) (st' := [.int (8 : Int32), .int (0 : Int32), .ref (x0 + 3), .int (0 : Int32), .ref (x1 + 3)]) rfl rfl trivial ?_
  refine xa_cp rfl (fun _ _ => rfl) (xkf (xsS3 hS hx1)) (xkf (xsS3 hS hx0)) (hx0.ge 3) (by decide) (by decide) (by decide) (by rw [(xkn (xsS3 hS hx1))]; exact (Nat.le_of_ble_eq_true rfl)) (by rw [(xkn (xsS3 hS hx0))]; exact (Nat.le_of_ble_eq_true rfl)) (Nat.le_of_ble_eq_true rfl) hf (fun h13 e14 hf => ?_)
  have hS := xS_cp hS e14
  refine xw_G (pc' := 78) (st' := [.ref x1]) rfl rfl trivial ?_
  refine xw_gr rfl (xkf (xsS0 hS hx1)) (xsSr7 hS hx1) ?_
  refine xw_G (pc' := 82) (st' := [.int (0 : Int32), .ref (x1 + 4)]) rfl rfl trivial ?_
  refine xw_G (pc' := 83) (st' := [.ref x0, .int (0 : Int32), .ref (x1 + 4)]) rfl rfl trivial ?_
  refine xw_gr rfl (xkf (xsS0 hS hx0)) (xsSr7 hS hx0) ?_
  refine xw_G (pc' := 87) (st' := [.int (0 : Int32), .ref (x0 + 4), .int (0 : Int32), .ref (x1 + 4)]) rfl rfl trivial ?_
  refine xw_G (pc' := 89) (st' := [.int (8 : Int32), .int (0 : Int32), .ref (x0 + 4), .int (0 : Int32), .ref (x1 + 4)]) rfl rfl trivial ?_
  refine xa_cp rfl (fun _ _ => rfl) (xkf (xsS4 hS hx1)) (xkf (xsS4 hS hx0)) (hx0.ge 4) (by decide) (by decide) (by decide) (by rw [(xkn (xsS4 hS hx1))]; exact (Nat.le_of_ble_eq_true rfl)) (by rw [(xkn (xsS4 hS hx0))]; exact (Nat.le_of_ble_eq_true rfl)) (Nat.le_of_ble_eq_true rfl) hf (fun h15 e16 hf => ?_)
  have hS := xS_cp hS e16
  refine xw_G (pc' := 93) (st' := [.ref x1]) rfl rfl trivial ?_
  refine xw_gr rfl (xkf (xsS0 hS hx1)) (xsSr8 hS hx1) ?_
  refine xw_G (pc' := 97) (st' := [.int (0 : Int32), .ref (x1 + 5)]) rfl rfl trivial ?_
  refine xw_G (pc' := 98) (st' := [.ref x0, .int (0 : Int32), .ref (x1 + 5)]) rfl rfl trivial ?_
  refine xw_gr rfl (xkf (xsS0 hS hx0)) (xsSr8 hS hx0) ?_
  refine xw_G (pc' := 102) (st' := [.int (0 : Int32), .ref (x0 + 5), .int (0 : Int32), .ref (x1 + 5)]) rfl rfl trivial ?_
  refine xw_G (pc' := 104) (st' := [.int (8 : Int32), .int (0 : Int32), .ref (x0 + 5), .int (0 : Int32), .ref (x1 + 5)]) rfl rfl trivial ?_
  refine xa_cp rfl (fun _ _ => rfl) (xkf (xsS5 hS hx1)) (xkf (xsS5 hS hx0)) (hx0.ge 5) (by decide) (by decide) (by decide) (by rw [(xkn (xsS5 hS hx1))]; exact (Nat.le_of_ble_eq_true rfl)) (by rw [(xkn (xsS5 hS hx0))]; exact (Nat.le_of_ble_eq_true rfl)) (Nat.le_of_ble_eq_true rfl) hf (fun h17 e18 hf => ?_)
  have hS := xS_cp hS e18
  refine xw_G (pc' := 108) (st' := [.ref x1]) rfl rfl trivial ?_
  refine xw_gr rfl (xkf (xsS0 hS hx1)) (xsSr9 hS hx1) ?_
  refine xw_G (pc' := 112) (st' := [.int (0 : Int32), .ref (x1 + 6)]) rfl rfl trivial ?_
  refine xw_G (pc' := 113) (st' := [.ref x0, .int (0 : Int32), .ref (x1 + 6)]) rfl rfl trivial ?_
  refine xw_gr rfl (xkf (xsS0 hS hx0)) (xsSr9 hS hx0) ?_
  refine xw_G (pc' := 117) (st' := [.int (0 : Int32), .ref (x0 + 6), .int (0 : Int32), .ref (x1 + 6)]) rfl rfl trivial ?_
  refine xw_G (pc' := 119) (st' := [.int (8 : Int32), .int (0 : Int32), .ref (x0 + 6), .int (0 : Int32), .ref (x1 + 6)]) rfl rfl trivial ?_
  refine xa_cp rfl (fun _ _ => rfl) (xkf (xsS6 hS hx1)) (xkf (xsS6 hS hx0)) (hx0.ge 6) (by decide) (by decide) (by decide) (by rw [(xkn (xsS6 hS hx1))]; exact (Nat.le_of_ble_eq_true rfl)) (by rw [(xkn (xsS6 hS hx0))]; exact (Nat.le_of_ble_eq_true rfl)) (Nat.le_of_ble_eq_true rfl) hf (fun h19 e20 hf => ?_)
  have hS := xS_cp hS e20
  refine xw_G (pc' := 123) (st' := [.ref x1]) rfl rfl trivial ?_
  refine xw_gr rfl (xkf (xsS0 hS hx1)) (xsSr10 hS hx1) ?_
  refine xw_G (pc' := 127) (st' := [.int (0 : Int32), .ref (x1 + 7)]) rfl rfl trivial ?_
  refine xw_G (pc' := 128) (st' := [.ref x0, .int (0 : Int32), .ref (x1 + 7)]) rfl rfl trivial ?_
  refine xw_gr rfl (xkf (xsS0 hS hx0)) (xsSr10 hS hx0) ?_
  refine xw_G (pc' := 132) (st' := [.int (0 : Int32), .ref (x0 + 7), .int (0 : Int32), .ref (x1 + 7)]) rfl rfl trivial ?_
  refine xw_G (pc' := 134) (st' := [.int (8 : Int32), .int (0 : Int32), .ref (x0 + 7), .int (0 : Int32), .ref (x1 + 7)]) rfl rfl trivial ?_
  refine xg_e hf (fun hg21 hf => ?_)
  refine xa_cp rfl hg21 (xkf (xsS7 hS hx1)) (xkf (xsS7 hS hx0)) (hx0.ge 7) (by decide) (by decide) (by decide) (by rw [(xkn (xsS7 hS hx1))]; exact (Nat.le_of_ble_eq_true rfl)) (by rw [(xkn (xsS7 hS hx0))]; exact (Nat.le_of_ble_eq_true rfl)) (Nat.le_of_ble_eq_true rfl) hf (fun h22 e23 hf => ?_)
  have hS := xS_cp hS e23
  exact xr_v (inj := xjv) rfl rfl hf hQ hS
def f_X2_record (x1 : Int32) (x2 : Int32) (h : xm_H) : Option (Unit × xm_H) := (if (xm_i h 201 2) < (400 : Int32) then (if xin (xm_i h 201 2) 400 then (xl (xm_si h 210 (Int32.toNatClampNeg (xm_i h 201 2)) (xm_i h 201 0)) fun h3 => (xl (xm_si h3 211 (Int32.toNatClampNeg (xm_i h 201 2)) x1) fun h5 => (if xin x2 4 then (xl (xm_si h5 212 (Int32.toNatClampNeg (xm_i h 201 2)) (xm_i h5 218 (Int32.toNatClampNeg x2))) fun h8 => (xl (xm_si h8 213 (Int32.toNatClampNeg (xm_i h 201 2)) x2) fun h10 => (xl (xm_si h10 214 (Int32.toNatClampNeg (xm_i h 201 2)) (xm_i h10 219 (Int32.toNatClampNeg x2))) fun h12 => (xl (xm_si h12 201 2 ((xm_i h12 201 2) + (1 : Int32))) fun h14 => (some ((), h14)))))) else none))) else none) else (some ((), h)))
theorem t_X2_record {ρ : Nat} {δ : Nat} {x1 : Int32} {x2 : Int32} {h : xm_H} {w : Unit × xm_H}  (hS : xS ρ δ h) (hf : f_X2_record x1 x2 h = some w) : xm_Rn xX 1 20 [.ref 182, .int x1, .int x2] h (xjv w.1) w.2 ∧ xS ρ δ w.2 := by
  refine xt_mk (φ := fun h => xS ρ δ h) (M := xM_X2_record) (ls := [some (.ref 182), some (.int x1), some (.int x2), none]) rfl (Nat.le_of_ble_eq_true rfl) rfl (fun Q hQ => ?_)
  unfold f_X2_record at hf
  refine xw_G (pc' := 1) (st' := [.ref 182]) rfl rfl trivial ?_
  refine xw_gr rfl (xkf (xs_k hS rfl rfl : xm_k h 182 = (3, 0))) (xs_r hS rfl) ?_
  refine xw_G (pc' := 7) (st' := [.int (xm_i h 201 2)]) rfl rfl (xkf (xs_k hS rfl rfl : xm_k h 201 = (8, 0))) ?_
  refine xw_G (pc' := 8) (ls' := [some (.ref 182), some (.int x1), some (.int x2), some (.int (xm_i h 201 2))]) (st' := []) rfl rfl (Nat.le_of_ble_eq_true rfl) ?_
  refine xw_G (pc' := 9) (st' := [.int (xm_i h 201 2)]) rfl rfl trivial ?_
  refine xw_G (pc' := 12) (st' := [.int (400 : Int32), .int (xm_i h 201 2)]) rfl rfl trivial ?_
  refine xj_ic_lt rfl hf (fun hc1 hf => ?_) (fun hc1 hf => ?_)
  · refine xw_G (pc' := 17) (st' := [.ref 182]) rfl rfl trivial ?_
    refine xw_gr rfl (xkf (xs_k hS rfl rfl : xm_k h 182 = (3, 0))) (xs_r hS rfl) ?_
    refine xw_gr rfl (xkf (xs_k hS rfl rfl : xm_k h 209 = (5, 0))) (xs_r hS rfl) ?_
    refine xw_G (pc' := 24) (st' := [.int (xm_i h 201 2), .ref 210]) rfl rfl trivial ?_
    refine xw_G (pc' := 25) (st' := [.ref 182, .int (xm_i h 201 2), .ref 210]) rfl rfl trivial ?_
    refine xw_gr rfl (xkf (xs_k hS rfl rfl : xm_k h 182 = (3, 0))) (xs_r hS rfl) ?_
    refine xw_G (pc' := 31) (st' := [.int (xm_i h 201 0), .int (xm_i h 201 2), .ref 210]) rfl rfl (xkf (xs_k hS rfl rfl : xm_k h 201 = (8, 0))) ?_
    refine xg_e hf (fun hg2 hf => ?_)
    refine xa_i rfl (xkf (xs_k hS rfl rfl : xm_k h 210 = (100, 400))) (xkn (xs_k hS rfl rfl : xm_k h 210 = (100, 400))) hg2 (Nat.le_of_ble_eq_true rfl) hf (fun h3 e4 hf => ?_)
    have hS := xS_si hS e4
    refine xw_G (pc' := 33) (st' := [.ref 182]) rfl rfl trivial ?_
    refine xw_gr rfl (xkf (xs_k hS rfl rfl : xm_k h3 182 = (3, 0))) (xs_r hS rfl) ?_
    refine xw_gr rfl (xkf (xs_k hS rfl rfl : xm_k h3 209 = (5, 0))) (xs_r hS rfl) ?_
    refine xw_G (pc' := 40) (st' := [.int (xm_i h 201 2), .ref 211]) rfl rfl trivial ?_
    refine xw_G (pc' := 41) (st' := [.int x1, .int (xm_i h 201 2), .ref 211]) rfl rfl trivial ?_
    refine xa_i rfl (xkf (xs_k hS rfl rfl : xm_k h3 211 = (100, 400))) (xkn (xs_k hS rfl rfl : xm_k h3 211 = (100, 400))) hg2 (Nat.le_of_ble_eq_true rfl) hf (fun h5 e6 hf => ?_)
    have hS := xS_si hS e6
    refine xw_G (pc' := 43) (st' := [.ref 182]) rfl rfl trivial ?_
    refine xw_gr rfl (xkf (xs_k hS rfl rfl : xm_k h5 182 = (3, 0))) (xs_r hS rfl) ?_
    refine xw_gr rfl (xkf (xs_k hS rfl rfl : xm_k h5 209 = (5, 0))) (xs_r hS rfl) ?_
    refine xw_G (pc' := 50) (st' := [.int (xm_i h 201 2), .ref 212]) rfl rfl trivial ?_
    refine xw_G (pc' := 51) (st' := [.ref 182, .int (xm_i h 201 2), .ref 212]) rfl rfl trivial ?_
    refine xw_gr rfl (xkf (xs_k hS rfl rfl : xm_k h5 182 = (3, 0))) (xs_r hS rfl) ?_
    refine xw_G (pc' := 55) (st' := [.int x2, .ref 218, .int (xm_i h 201 2), .ref 212]) rfl rfl trivial ?_
    refine xg_e hf (fun hg7 hf => ?_)
    refine xa_ld (t := 100) (τ := 0) (v := .int (xm_i h5 218 (Int32.toNatClampNeg x2))) rfl rfl (xkf (xs_k hS rfl rfl : xm_k h5 218 = (100, 4))) (xkn (xs_k hS rfl rfl : xm_k h5 218 = (100, 4))) hg7 rfl ?_
    refine xa_i rfl (xkf (xs_k hS rfl rfl : xm_k h5 212 = (100, 400))) (xkn (xs_k hS rfl rfl : xm_k h5 212 = (100, 400))) hg2 (Nat.le_of_ble_eq_true rfl) hf (fun h8 e9 hf => ?_)
    have hS := xS_si hS e9
    refine xw_G (pc' := 58) (st' := [.ref 182]) rfl rfl trivial ?_
    refine xw_gr rfl (xkf (xs_k hS rfl rfl : xm_k h8 182 = (3, 0))) (xs_r hS rfl) ?_
    refine xw_gr rfl (xkf (xs_k hS rfl rfl : xm_k h8 209 = (5, 0))) (xs_r hS rfl) ?_
    refine xw_G (pc' := 65) (st' := [.int (xm_i h 201 2), .ref 213]) rfl rfl trivial ?_
    refine xw_G (pc' := 66) (st' := [.int x2, .int (xm_i h 201 2), .ref 213]) rfl rfl trivial ?_
    refine xa_i rfl (xkf (xs_k hS rfl rfl : xm_k h8 213 = (100, 400))) (xkn (xs_k hS rfl rfl : xm_k h8 213 = (100, 400))) hg2 (Nat.le_of_ble_eq_true rfl) hf (fun h10 e11 hf => ?_)
    have hS := xS_si hS e11
    refine xw_G (pc' := 68) (st' := [.ref 182]) rfl rfl trivial ?_
    refine xw_gr rfl (xkf (xs_k hS rfl rfl : xm_k h10 182 = (3, 0))) (xs_r hS rfl) ?_
    refine xw_gr rfl (xkf (xs_k hS rfl rfl : xm_k h10 209 = (5, 0))) (xs_r hS rfl) ?_
    refine xw_G (pc' := 75) (st' := [.int (xm_i h 201 2), .ref 214]) rfl rfl trivial ?_
    refine xw_G (pc' := 76) (st' := [.ref 182, .int (xm_i h 201 2), .ref 214]) rfl rfl trivial ?_
    refine xw_gr rfl (xkf (xs_k hS rfl rfl : xm_k h10 182 = (3, 0))) (xs_r hS rfl) ?_
    refine xw_G (pc' := 80) (st' := [.int x2, .ref 219, .int (xm_i h 201 2), .ref 214]) rfl rfl trivial ?_
    refine xa_ld (t := 100) (τ := 0) (v := .int (xm_i h10 219 (Int32.toNatClampNeg x2))) rfl rfl (xkf (xs_k hS rfl rfl : xm_k h10 219 = (100, 4))) (xkn (xs_k hS rfl rfl : xm_k h10 219 = (100, 4))) hg7 rfl ?_
    refine xa_i rfl (xkf (xs_k hS rfl rfl : xm_k h10 214 = (100, 400))) (xkn (xs_k hS rfl rfl : xm_k h10 214 = (100, 400))) hg2 (Nat.le_of_ble_eq_true rfl) hf (fun h12 e13 hf => ?_)
    have hS := xS_si hS e13
    refine xw_G (pc' := 83) (st' := [.ref 182]) rfl rfl trivial ?_
    refine xw_gr rfl (xkf (xs_k hS rfl rfl : xm_k h12 182 = (3, 0))) (xs_r hS rfl) ?_
    refine xw_G (pc' := 87) (st' := [.ref 201, .ref 201]) rfl rfl rfl ?_
    refine xw_G (pc' := 90) (st' := [.int (xm_i h12 201 2), .ref 201]) rfl rfl (xkf (xs_k hS rfl rfl : xm_k h12 201 = (8, 0))) ?_
    refine xw_G (pc' := 91) (st' := [.int (1 : Int32), .int (xm_i h12 201 2), .ref 201]) rfl rfl trivial ?_
    refine xw_G (pc' := 92) (st' := [.int ((xm_i h12 201 2) + (1 : Int32)), .ref 201]) rfl rfl trivial ?_
    refine xp_i rfl (xkf (xs_k hS rfl rfl : xm_k h12 201 = (8, 0))) (Nat.le_of_ble_eq_true rfl) hf (fun h14 e15 hf => ?_)
    have hS := xS_si hS e15
    exact xr_v (inj := xjv) rfl rfl hf hQ hS
  · exact xr_v (inj := xjv) rfl rfl hf hQ hS
def f_X2_serve_32B (N : Nat) (ρ : Nat) (c1 : Int32) (rec : Int32 → xm_H → Option (Int32 × xm_H)) (c4 : Int32) (h : xm_H) : Option (Int32 × xm_H) := (if c4 < (xm_i h 182 9) then (if xin c4 4 then (if xin (xm_i h 218 (Int32.toNatClampNeg c4)) 8 then (xl (xm_si h 206 (Int32.toNatClampNeg (xm_i h 218 (Int32.toNatClampNeg c4))) ((xm_i h 206 (Int32.toNatClampNeg (xm_i h 218 (Int32.toNatClampNeg c4)))) + (xm_i h 219 (Int32.toNatClampNeg c4)))) fun h4 => (xb (f_X2_record c1 c4 h4) fun v6 h7 => (rec (c4 + (1 : Int32)) h7))) else none) else none) else (some (xm_i h 182 9, h)))
def f_X2_serve_32 (N : Nat) (ρ : Nat) (c1 : Int32) : Nat → Int32 → xm_H → Option (Int32 × xm_H)
  | 0 => fun _ _ => none
  | n + 1 => fun c4 h => f_X2_serve_32B N ρ c1 (f_X2_serve_32 N ρ c1 n) c4 h
def f_X2_serve (N : Nat) (ρ : Nat) (x1 : Int32) (x2 : Int32) (x3 : Int32) (h : xm_H) : Option (Int32 × xm_H) := (if xin x2 6 then (xb (f_X2_rank N ρ x1 x2 (xm_i h 202 (Int32.toNatClampNeg x2)) h) fun v2 h3 => (xb (f_X2_fill N ρ x3 (xm_i h3 202 (Int32.toNatClampNeg x2)) h3) fun v5 h6 => (f_X2_serve_32 N ρ x1 N (0 : Int32) h6))) else none)
theorem tl_X2_serve_32 {δ : Nat} {N : Nat} {ρ : Nat} {c1 : Int32} {Q : xm_O → xm_H → Prop} {w : Int32 × xm_H}  (hQ : xS ρ δ w.2 → Q (xji w.1) w.2)  : ∀ (n : Nat) (c4 : Int32) (h : xm_H), xS ρ δ h → f_X2_serve_32 N ρ c1 n c4 h = some w → xm_W (xm_Rn xX 3) xM_X2_serve Q 32 [some (.ref 182), some (.int c1), none, none, some (.int c4)] [] h := by
  intro n
  induction n with
  | zero =>
    intro c4 h hS hf
    exact (xn_e hf).elim
  | succ n ih =>
    intro c4 h hS hf
    replace hf : f_X2_serve_32B N ρ c1 (f_X2_serve_32 N ρ c1 n) c4 h = some w := hf
    unfold f_X2_serve_32B at hf
    refine xw_K (pc' := 34) (ls' := [some (.ref 182), some (.int c1), none, none, some (.int c4)]) (st' := [.int c4]) rfl rfl trivial ?_
    refine xw_G (pc' := 35) (st' := [.ref 182, .int c4]) rfl rfl trivial ?_
    refine xw_G (pc' := 38) (st' := [.int (xm_i h 182 9), .int c4]) rfl rfl (xkf (xs_k hS rfl rfl : xm_k h 182 = (3, 0))) ?_
    refine xj_ic_ge rfl hf (fun hc1 hf => ?_) (fun hc1 hf => ?_)
    · refine xw_G (pc' := 42) (st' := [.ref 182]) rfl rfl trivial ?_
      refine xw_gr rfl (xkf (xs_k hS rfl rfl : xm_k h 182 = (3, 0))) (xs_r hS rfl) ?_
      refine xw_gr rfl (xkf (xs_k hS rfl rfl : xm_k h 201 = (8, 0))) (xs_r hS rfl) ?_
      refine xw_G (pc' := 49) (st' := [.ref 182, .ref 206]) rfl rfl trivial ?_
      refine xw_gr rfl (xkf (xs_k hS rfl rfl : xm_k h 182 = (3, 0))) (xs_r hS rfl) ?_
      refine xw_G (pc' := 54) (st' := [.int c4, .ref 218, .ref 206]) rfl rfl trivial ?_
      refine xg_e hf (fun hg2 hf => ?_)
      refine xa_ld (t := 100) (τ := 0) (v := .int (xm_i h 218 (Int32.toNatClampNeg c4))) rfl rfl (xkf (xs_k hS rfl rfl : xm_k h 218 = (100, 4))) (xkn (xs_k hS rfl rfl : xm_k h 218 = (100, 4))) hg2 rfl ?_
      refine xw_G (pc' := 56) (st' := [.int (xm_i h 218 (Int32.toNatClampNeg c4)), .ref 206, .int (xm_i h 218 (Int32.toNatClampNeg c4)), .ref 206]) rfl rfl ⟨rfl, rfl⟩ ?_
      refine xg_e hf (fun hg3 hf => ?_)
      refine xa_ld (t := 100) (τ := 0) (v := .int (xm_i h 206 (Int32.toNatClampNeg (xm_i h 218 (Int32.toNatClampNeg c4))))) rfl rfl (xkf (xs_k hS rfl rfl : xm_k h 206 = (100, 8))) (xkn (xs_k hS rfl rfl : xm_k h 206 = (100, 8))) hg3 rfl ?_
      refine xw_G (pc' := 58) (st' := [.ref 182, .int (xm_i h 206 (Int32.toNatClampNeg (xm_i h 218 (Int32.toNatClampNeg c4)))), .int (xm_i h 218 (Int32.toNatClampNeg c4)), .ref 206]) rfl rfl trivial ?_
      refine xw_gr rfl (xkf (xs_k hS rfl rfl : xm_k h 182 = (3, 0))) (xs_r hS rfl) ?_
      refine xw_G (pc' := 63) (st' := [.int c4, .ref 219, .int (xm_i h 206 (Int32.toNatClampNeg (xm_i h 218 (Int32.toNatClampNeg c4)))), .int (xm_i h 218 (Int32.toNatClampNeg c4)), .ref 206]) rfl rfl trivial ?_
      refine xa_ld (t := 100) (τ := 0) (v := .int (xm_i h 219 (Int32.toNatClampNeg c4))) rfl rfl (xkf (xs_k hS rfl rfl : xm_k h 219 = (100, 4))) (xkn (xs_k hS rfl rfl : xm_k h 219 = (100, 4))) hg2 rfl ?_
      refine xw_G (pc' := 65) (st' := [.int ((xm_i h 206 (Int32.toNatClampNeg (xm_i h 218 (Int32.toNatClampNeg c4)))) + (xm_i h 219 (Int32.toNatClampNeg c4))), .int (xm_i h 218 (Int32.toNatClampNeg c4)), .ref 206]) rfl rfl trivial ?_
      refine xa_i rfl (xkf (xs_k hS rfl rfl : xm_k h 206 = (100, 8))) (xkn (xs_k hS rfl rfl : xm_k h 206 = (100, 8))) hg3 (Nat.le_of_ble_eq_true rfl) hf (fun h4 e5 hf => ?_)
      have hS := xS_si hS e5
      refine xw_G (pc' := 67) (st' := [.ref 182]) rfl rfl trivial ?_
      refine xw_G (pc' := 68) (st' := [.int c1, .ref 182]) rfl rfl trivial ?_
      refine xw_G (pc' := 70) (st' := [.int c4, .int c1, .ref 182]) rfl rfl trivial ?_
      refine xb_e hf (fun v6 h7 e8 hf => ?_)
      refine xw_V (v := none) rfl rfl (xkf (xs_k hS rfl rfl : xm_k h4 182 = (3, 0))) (Nat.le_of_ble_eq_true rfl) (Nat.le_of_ble_eq_true rfl) (xm_Rn_le (Nat.le_of_ble_eq_true rfl) (t_X2_record  hS e8).1) ?_
      have hS := (t_X2_record  hS e8).2
      show xm_W _ _ _ 73 _ [] _
      refine xw_G (pc' := 76) (ls' := [some (.ref 182), some (.int c1), none, none, some (.int (c4 + (1 : Int32)))]) (st' := []) rfl rfl (Nat.le_of_ble_eq_true rfl) ?_
      refine xw_G (pc' := 32) (st' := []) rfl rfl trivial ?_
      refine xw_M rfl rfl ?_
      exact ih _ _ hS hf
    · refine xw_G (pc' := 80) (st' := [.ref 182]) rfl rfl trivial ?_
      refine xw_G (pc' := 83) (st' := [.int (xm_i h 182 9)]) rfl rfl (xkf (xs_k hS rfl rfl : xm_k h 182 = (3, 0))) ?_
      exact xr_i (inj := xji) rfl rfl rfl rfl hf hQ hS
theorem t_X2_serve {N : Nat} {ρ : Nat} {δ : Nat} {x1 : Int32} {x2 : Int32} {x3 : Int32} {h : xm_H} {w : Int32 × xm_H}  (hS : xS ρ δ h) (hf : f_X2_serve N ρ x1 x2 x3 h = some w) : xm_Rn xX 4 19 [.ref 182, .int x1, .int x2, .int x3] h (xji w.1) w.2 ∧ xS ρ δ w.2 := by
  refine xt_mk (φ := fun h => xS ρ δ h) (M := xM_X2_serve) (ls := [some (.ref 182), some (.int x1), some (.int x2), some (.int x3), none]) rfl (Nat.le_of_ble_eq_true rfl) rfl (fun Q hQ => ?_)
  unfold f_X2_serve at hf
  refine xw_G (pc' := 1) (st' := [.ref 182]) rfl rfl trivial ?_
  refine xw_G (pc' := 2) (st' := [.int x1, .ref 182]) rfl rfl trivial ?_
  refine xw_G (pc' := 3) (st' := [.int x2, .int x1, .ref 182]) rfl rfl trivial ?_
  refine xw_G (pc' := 4) (st' := [.ref 182, .int x2, .int x1, .ref 182]) rfl rfl trivial ?_
  refine xw_gr rfl (xkf (xs_k hS rfl rfl : xm_k h 182 = (3, 0))) (xs_r hS rfl) ?_
  refine xw_gr rfl (xkf (xs_k hS rfl rfl : xm_k h 201 = (8, 0))) (xs_r hS rfl) ?_
  refine xw_G (pc' := 11) (st' := [.int x2, .ref 202, .int x2, .int x1, .ref 182]) rfl rfl trivial ?_
  refine xg_e hf (fun hg1 hf => ?_)
  refine xa_ld (t := 100) (τ := 0) (v := .int (xm_i h 202 (Int32.toNatClampNeg x2))) rfl rfl (xkf (xs_k hS rfl rfl : xm_k h 202 = (100, 6))) (xkn (xs_k hS rfl rfl : xm_k h 202 = (100, 6))) hg1 rfl ?_
  refine xb_e hf (fun v2 h3 e4 hf => ?_)
  refine xw_V (v := none) rfl rfl (xkf (xs_k hS rfl rfl : xm_k h 182 = (3, 0))) (Nat.le_of_ble_eq_true rfl) (Nat.le_of_ble_eq_true rfl) (xm_Rn_le (Nat.le_of_ble_eq_true rfl) (t_X2_rank  hS e4).1) ?_
  have hS := (t_X2_rank  hS e4).2
  show xm_W _ _ _ 15 _ [] _
  refine xw_G (pc' := 16) (st' := [.ref 182]) rfl rfl trivial ?_
  refine xw_G (pc' := 17) (st' := [.int x3, .ref 182]) rfl rfl trivial ?_
  refine xw_G (pc' := 18) (st' := [.ref 182, .int x3, .ref 182]) rfl rfl trivial ?_
  refine xw_gr rfl (xkf (xs_k hS rfl rfl : xm_k h3 182 = (3, 0))) (xs_r hS rfl) ?_
  refine xw_gr rfl (xkf (xs_k hS rfl rfl : xm_k h3 201 = (8, 0))) (xs_r hS rfl) ?_
  refine xw_G (pc' := 25) (st' := [.int x2, .ref 202, .int x3, .ref 182]) rfl rfl trivial ?_
  refine xa_ld (t := 100) (τ := 0) (v := .int (xm_i h3 202 (Int32.toNatClampNeg x2))) rfl rfl (xkf (xs_k hS rfl rfl : xm_k h3 202 = (100, 6))) (xkn (xs_k hS rfl rfl : xm_k h3 202 = (100, 6))) hg1 rfl ?_
  refine xb_e hf (fun v5 h6 e7 hf => ?_)
  refine xw_V (v := none) rfl rfl (xkf (xs_k hS rfl rfl : xm_k h3 182 = (3, 0))) (Nat.le_of_ble_eq_true rfl) (Nat.le_of_ble_eq_true rfl) (xm_Rn_le (Nat.le_of_ble_eq_true rfl) (t_X2_fill  hS e7).1) ?_
  have hS := (t_X2_fill  hS e7).2
  show xm_W _ _ _ 29 _ [] _
  refine xw_G (pc' := 30) (st' := [.int (0 : Int32)]) rfl rfl trivial ?_
  refine xw_G (pc' := 32) (ls' := [some (.ref 182), some (.int x1), some (.int x2), some (.int x3), some (.int (0 : Int32))]) (st' := []) rfl rfl (Nat.le_of_ble_eq_true rfl) ?_
  refine xw_M rfl rfl ?_
  refine tl_X2_serve_32  hQ  _ _ _ hS hf
def f_X2_control (ρ : Nat) (x1 : Int32) (h : xm_H) : Option (Unit × xm_H) := (xb (f_X2_planned ρ x1 h) fun v1 h2 => (if xin x1 8 then (if v1 < (xm_i h2 206 (Int32.toNatClampNeg x1)) then (xl (xm_si h2 207 (Int32.toNatClampNeg x1) (if ((xm_i h2 207 (Int32.toNatClampNeg x1)) - (10 : Int32)) < (10 : Int32) then (10 : Int32) else ((xm_i h2 207 (Int32.toNatClampNeg x1)) - (10 : Int32)))) fun h6 => (some ((), h6))) else (if (xm_i h2 206 (Int32.toNatClampNeg x1)) < v1 then (xl (xm_si h2 207 (Int32.toNatClampNeg x1) (if (100 : Int32) < ((xm_i h2 207 (Int32.toNatClampNeg x1)) + (5 : Int32)) then (100 : Int32) else ((xm_i h2 207 (Int32.toNatClampNeg x1)) + (5 : Int32)))) fun h9 => (some ((), h9))) else (some ((), h2)))) else none))
theorem t_X2_control {ρ : Nat} {δ : Nat} {x1 : Int32} {h : xm_H} {w : Unit × xm_H}  (hS : xS ρ δ h) (hf : f_X2_control ρ x1 h = some w) : xm_Rn xX 2 12 [.ref 182, .int x1] h (xjv w.1) w.2 ∧ xS ρ δ w.2 := by
  refine xt_mk (φ := fun h => xS ρ δ h) (M := xM_X2_control) (ls := [some (.ref 182), some (.int x1), none, none]) rfl (Nat.le_of_ble_eq_true rfl) rfl (fun Q hQ => ?_)
  unfold f_X2_control at hf
  refine xw_G (pc' := 1) (st' := [.ref 182]) rfl rfl trivial ?_
  refine xw_G (pc' := 2) (st' := [.int x1, .ref 182]) rfl rfl trivial ?_
  refine xb_e hf (fun v1 h2 e3 hf => ?_)
  refine xw_V (v := some (.int v1)) rfl rfl (xkf (xs_k hS rfl rfl : xm_k h 182 = (3, 0))) (Nat.le_of_ble_eq_true rfl) (Nat.le_of_ble_eq_true rfl) (xm_Rn_le (Nat.le_of_ble_eq_true rfl) (t_X2_planned  hS e3).1) ?_
  have hS := (t_X2_planned  hS e3).2
  show xm_W _ _ _ 5 _ [.int v1] _
  refine xw_G (pc' := 6) (ls' := [some (.ref 182), some (.int x1), some (.int v1), none]) (st' := []) rfl rfl (Nat.le_of_ble_eq_true rfl) ?_
  refine xw_G (pc' := 7) (st' := [.ref 182]) rfl rfl trivial ?_
  refine xw_gr rfl (xkf (xs_k hS rfl rfl : xm_k h2 182 = (3, 0))) (xs_r hS rfl) ?_
  refine xw_gr rfl (xkf (xs_k hS rfl rfl : xm_k h2 201 = (8, 0))) (xs_r hS rfl) ?_
  refine xw_G (pc' := 14) (st' := [.int x1, .ref 207]) rfl rfl trivial ?_
  refine xg_e hf (fun hg4 hf => ?_)
  refine xa_ld (t := 100) (τ := 0) (v := .int (xm_i h2 207 (Int32.toNatClampNeg x1))) rfl rfl (xkf (xs_k hS rfl rfl : xm_k h2 207 = (100, 8))) (xkn (xs_k hS rfl rfl : xm_k h2 207 = (100, 8))) hg4 rfl ?_
  refine xw_G (pc' := 16) (ls' := [some (.ref 182), some (.int x1), some (.int v1), some (.int (xm_i h2 207 (Int32.toNatClampNeg x1)))]) (st' := []) rfl rfl (Nat.le_of_ble_eq_true rfl) ?_
  refine xw_G (pc' := 17) (st' := [.ref 182]) rfl rfl trivial ?_
  refine xw_gr rfl (xkf (xs_k hS rfl rfl : xm_k h2 182 = (3, 0))) (xs_r hS rfl) ?_
  refine xw_gr rfl (xkf (xs_k hS rfl rfl : xm_k h2 201 = (8, 0))) (xs_r hS rfl) ?_
  refine xw_G (pc' := 24) (st' := [.int x1, .ref 206]) rfl rfl trivial ?_
  refine xa_ld (t := 100) (τ := 0) (v := .int (xm_i h2 206 (Int32.toNatClampNeg x1))) rfl rfl (xkf (xs_k hS rfl rfl : xm_k h2 206 = (100, 8))) (xkn (xs_k hS rfl rfl : xm_k h2 206 = (100, 8))) hg4 rfl ?_
  refine xw_G (pc' := 26) (st' := [.int v1, .int (xm_i h2 206 (Int32.toNatClampNeg x1))]) rfl rfl trivial ?_
  refine xj_ic_le rfl hf (fun hc5 hf => ?_) (fun hc5 hf => ?_)
  · refine xw_G (pc' := 30) (st' := [.ref 182]) rfl rfl trivial ?_
    refine xw_gr rfl (xkf (xs_k hS rfl rfl : xm_k h2 182 = (3, 0))) (xs_r hS rfl) ?_
    refine xw_gr rfl (xkf (xs_k hS rfl rfl : xm_k h2 201 = (8, 0))) (xs_r hS rfl) ?_
    refine xw_G (pc' := 37) (st' := [.int x1, .ref 207]) rfl rfl trivial ?_
    refine xw_G (pc' := 38) (st' := [.int (xm_i h2 207 (Int32.toNatClampNeg x1)), .int x1, .ref 207]) rfl rfl trivial ?_
    refine xw_G (pc' := 40) (st' := [.int (10 : Int32), .int (xm_i h2 207 (Int32.toNatClampNeg x1)), .int x1, .ref 207]) rfl rfl trivial ?_
    refine xw_G (pc' := 41) (st' := [.int ((xm_i h2 207 (Int32.toNatClampNeg x1)) - (10 : Int32)), .int x1, .ref 207]) rfl rfl trivial ?_
    refine xw_G (pc' := 43) (st' := [.int (10 : Int32), .int ((xm_i h2 207 (Int32.toNatClampNeg x1)) - (10 : Int32)), .int x1, .ref 207]) rfl rfl trivial ?_
    refine xw_max rfl (Nat.le_of_ble_eq_true rfl) ?_
    refine xa_i rfl (xkf (xs_k hS rfl rfl : xm_k h2 207 = (100, 8))) (xkn (xs_k hS rfl rfl : xm_k h2 207 = (100, 8))) hg4 (Nat.le_of_ble_eq_true rfl) hf (fun h6 e7 hf => ?_)
    have hS := xS_si hS e7
    refine xw_G (pc' := 80) (st' := []) rfl rfl trivial ?_
    exact xr_v (inj := xjv) rfl rfl hf hQ hS
  · refine xw_G (pc' := 51) (st' := [.ref 182]) rfl rfl trivial ?_
    refine xw_gr rfl (xkf (xs_k hS rfl rfl : xm_k h2 182 = (3, 0))) (xs_r hS rfl) ?_
    refine xw_gr rfl (xkf (xs_k hS rfl rfl : xm_k h2 201 = (8, 0))) (xs_r hS rfl) ?_
    refine xw_G (pc' := 58) (st' := [.int x1, .ref 206]) rfl rfl trivial ?_
    refine xa_ld (t := 100) (τ := 0) (v := .int (xm_i h2 206 (Int32.toNatClampNeg x1))) rfl rfl (xkf (xs_k hS rfl rfl : xm_k h2 206 = (100, 8))) (xkn (xs_k hS rfl rfl : xm_k h2 206 = (100, 8))) hg4 rfl ?_
    refine xw_G (pc' := 60) (st' := [.int v1, .int (xm_i h2 206 (Int32.toNatClampNeg x1))]) rfl rfl trivial ?_
    refine xj_ic_ge rfl hf (fun hc8 hf => ?_) (fun hc8 hf => ?_)
    · refine xw_G (pc' := 64) (st' := [.ref 182]) rfl rfl trivial ?_
      refine xw_gr rfl (xkf (xs_k hS rfl rfl : xm_k h2 182 = (3, 0))) (xs_r hS rfl) ?_
      refine xw_gr rfl (xkf (xs_k hS rfl rfl : xm_k h2 201 = (8, 0))) (xs_r hS rfl) ?_
      refine xw_G (pc' := 71) (st' := [.int x1, .ref 207]) rfl rfl trivial ?_
      refine xw_G (pc' := 72) (st' := [.int (xm_i h2 207 (Int32.toNatClampNeg x1)), .int x1, .ref 207]) rfl rfl trivial ?_
      refine xw_G (pc' := 73) (st' := [.int (5 : Int32), .int (xm_i h2 207 (Int32.toNatClampNeg x1)), .int x1, .ref 207]) rfl rfl trivial ?_
      refine xw_G (pc' := 74) (st' := [.int ((xm_i h2 207 (Int32.toNatClampNeg x1)) + (5 : Int32)), .int x1, .ref 207]) rfl rfl trivial ?_
      refine xw_G (pc' := 76) (st' := [.int (100 : Int32), .int ((xm_i h2 207 (Int32.toNatClampNeg x1)) + (5 : Int32)), .int x1, .ref 207]) rfl rfl trivial ?_
      refine xw_min rfl (Nat.le_of_ble_eq_true rfl) ?_
      refine xa_i rfl (xkf (xs_k hS rfl rfl : xm_k h2 207 = (100, 8))) (xkn (xs_k hS rfl rfl : xm_k h2 207 = (100, 8))) hg4 (Nat.le_of_ble_eq_true rfl) hf (fun h9 e10 hf => ?_)
      have hS := xS_si hS e10
      exact xr_v (inj := xjv) rfl rfl hf hQ hS
    · exact xr_v (inj := xjv) rfl rfl hf hQ hS
def f_X2_passTick_2B (N : Nat) (ρ : Nat) (k36 : xm_H → Option (Unit × xm_H)) (rec : Int32 → xm_H → Option (Unit × xm_H)) (c1 : Int32) (h : xm_H) : Option (Unit × xm_H) := (if c1 < (xm_i h ρ 7) then (if xin c1 8 then (if (xm_i h 205 (Int32.toNatClampNeg c1)) = 0 then (rec (c1 + (1 : Int32)) h) else (xb (f_X2_control ρ c1 h) fun v4 h5 => (rec (c1 + (1 : Int32)) h5))) else none) else (k36  h))
def f_X2_passTick_2 (N : Nat) (ρ : Nat) (k36 : xm_H → Option (Unit × xm_H)) : Nat → Int32 → xm_H → Option (Unit × xm_H)
  | 0 => fun _ _ => none
  | n + 1 => fun c1 h => f_X2_passTick_2B N ρ k36 (f_X2_passTick_2 N ρ k36 n) c1 h
def f_X2_passTick (N : Nat) (ρ : Nat) (h : xm_H) : Option (Unit × xm_H) := (f_X2_passTick_2 N ρ (fun  (h1 : xm_H) => (xl (xm_si h1 201 0 ((xm_i h1 201 0) + (1 : Int32))) fun h2 => (xl (xm_si h2 201 1 ((xm_i h2 201 1) + (1 : Int32))) fun h4 => (if (xm_i h4 201 1) < (xm_i h4 ρ 0) then (some ((), h4)) else (xb (f_X7_beginDay N h4) fun v7 h8 => (some ((), h8))))))) N (0 : Int32) h)
theorem tl_X2_passTick_2 {δ : Nat} {N : Nat} {ρ : Nat} {k36 : xm_H → Option (Unit × xm_H)} {Q : xm_O → xm_H → Prop} {w : Unit × xm_H}  (hQ : xS ρ δ w.2 → Q (xjv w.1) w.2) (hk36 : ∀  (h : xm_H), xS ρ δ h → k36  h = some w → xm_W (xm_Rn xX 2) xM_X2_passTick Q 36 [some (.ref 182), none] [] h) : ∀ (n : Nat) (c1 : Int32) (h : xm_H), xS ρ δ h → f_X2_passTick_2 N ρ k36 n c1 h = some w → xm_W (xm_Rn xX 2) xM_X2_passTick Q 2 [some (.ref 182), some (.int c1)] [] h := by
  intro n
  induction n with
  | zero =>
    intro c1 h hS hf
    exact (xn_e hf).elim
  | succ n ih =>
    intro c1 h hS hf
    replace hf : f_X2_passTick_2B N ρ k36 (f_X2_passTick_2 N ρ k36 n) c1 h = some w := hf
    unfold f_X2_passTick_2B at hf
    refine xw_K (pc' := 3) (ls' := [some (.ref 182), some (.int c1)]) (st' := [.int c1]) rfl rfl trivial ?_
    refine xw_G (pc' := 4) (st' := [.ref 182, .int c1]) rfl rfl trivial ?_
    refine xw_gr rfl (xkf (xs_k hS rfl rfl : xm_k h 182 = (3, 0))) (xs_rho hS) ?_
    refine xw_G (pc' := 10) (st' := [.int (xm_i h ρ 7), .int c1]) rfl rfl (xkf (xsR0 hS (xs_R hS))) ?_
    refine xj_ic_ge rfl hf (fun hc1 hf => ?_) (fun hc1 hf => ?_)
    · refine xw_G (pc' := 14) (st' := [.ref 182]) rfl rfl trivial ?_
      refine xw_gr rfl (xkf (xs_k hS rfl rfl : xm_k h 182 = (3, 0))) (xs_r hS rfl) ?_
      refine xw_gr rfl (xkf (xs_k hS rfl rfl : xm_k h 201 = (8, 0))) (xs_r hS rfl) ?_
      refine xw_G (pc' := 21) (st' := [.int c1, .ref 205]) rfl rfl trivial ?_
      refine xg_e hf (fun hg2 hf => ?_)
      refine xa_ld (t := 100) (τ := 0) (v := .int (xm_i h 205 (Int32.toNatClampNeg c1))) rfl rfl (xkf (xs_k hS rfl rfl : xm_k h 205 = (100, 8))) (xkn (xs_k hS rfl rfl : xm_k h 205 = (100, 8))) hg2 rfl ?_
      refine xj_if_eq rfl hf (fun hc3 hf => ?_) (fun hc3 hf => ?_)
      · refine xw_G (pc' := 33) (ls' := [some (.ref 182), some (.int (c1 + (1 : Int32)))]) (st' := []) rfl rfl (Nat.le_of_ble_eq_true rfl) ?_
        refine xw_G (pc' := 2) (st' := []) rfl rfl trivial ?_
        refine xw_M rfl rfl ?_
        exact ih _ _ hS hf
      · refine xw_G (pc' := 26) (st' := [.ref 182]) rfl rfl trivial ?_
        refine xw_G (pc' := 27) (st' := [.int c1, .ref 182]) rfl rfl trivial ?_
        refine xb_e hf (fun v4 h5 e6 hf => ?_)
        refine xw_V (v := none) rfl rfl (xkf (xs_k hS rfl rfl : xm_k h 182 = (3, 0))) (Nat.le_of_ble_eq_true rfl) (Nat.le_of_ble_eq_true rfl) (xm_Rn_le (Nat.le_of_ble_eq_true rfl) (t_X2_control  hS e6).1) ?_
        have hS := (t_X2_control  hS e6).2
        show xm_W _ _ _ 30 _ [] _
        refine xw_G (pc' := 33) (ls' := [some (.ref 182), some (.int (c1 + (1 : Int32)))]) (st' := []) rfl rfl (Nat.le_of_ble_eq_true rfl) ?_
        refine xw_G (pc' := 2) (st' := []) rfl rfl trivial ?_
        refine xw_M rfl rfl ?_
        exact ih _ _ hS hf
    · refine xw_M rfl rfl ?_
      exact hk36  _ hS hf
theorem t_X2_passTick {N : Nat} {ρ : Nat} {δ : Nat} {h : xm_H} {w : Unit × xm_H}  (hS : xS ρ δ h) (hf : f_X2_passTick N ρ h = some w) : xm_Rn xX 3 11 [.ref 182] h (xjv w.1) w.2 ∧ xS ρ δ w.2 := by
  refine xt_mk (φ := fun h => xS ρ δ h) (M := xM_X2_passTick) (ls := [some (.ref 182), none]) rfl (Nat.le_of_ble_eq_true rfl) rfl (fun Q hQ => ?_)
  unfold f_X2_passTick at hf
  refine xw_G (pc' := 1) (st' := [.int (0 : Int32)]) rfl rfl trivial ?_
  refine xw_G (pc' := 2) (ls' := [some (.ref 182), some (.int (0 : Int32))]) (st' := []) rfl rfl (Nat.le_of_ble_eq_true rfl) ?_
  refine xw_M rfl rfl ?_
  refine tl_X2_passTick_2  hQ (fun  h1 hS hf => ?_) _ _ _ hS hf
  refine xw_K (pc' := 37) (ls' := [some (.ref 182), none]) (st' := [.ref 182]) rfl rfl trivial ?_
  refine xw_gr rfl (xkf (xs_k hS rfl rfl : xm_k h1 182 = (3, 0))) (xs_r hS rfl) ?_
  refine xw_G (pc' := 41) (st' := [.ref 201, .ref 201]) rfl rfl rfl ?_
  refine xw_G (pc' := 44) (st' := [.int (xm_i h1 201 0), .ref 201]) rfl rfl (xkf (xs_k hS rfl rfl : xm_k h1 201 = (8, 0))) ?_
  refine xw_G (pc' := 45) (st' := [.int (1 : Int32), .int (xm_i h1 201 0), .ref 201]) rfl rfl trivial ?_
  refine xw_G (pc' := 46) (st' := [.int ((xm_i h1 201 0) + (1 : Int32)), .ref 201]) rfl rfl trivial ?_
  refine xp_i rfl (xkf (xs_k hS rfl rfl : xm_k h1 201 = (8, 0))) (Nat.le_of_ble_eq_true rfl) hf (fun h2 e3 hf => ?_)
  have hS := xS_si hS e3
  refine xw_G (pc' := 50) (st' := [.ref 182]) rfl rfl trivial ?_
  refine xw_gr rfl (xkf (xs_k hS rfl rfl : xm_k h2 182 = (3, 0))) (xs_r hS rfl) ?_
  refine xw_G (pc' := 54) (st' := [.ref 201, .ref 201]) rfl rfl rfl ?_
  refine xw_G (pc' := 57) (st' := [.int (xm_i h2 201 1), .ref 201]) rfl rfl (xkf (xs_k hS rfl rfl : xm_k h2 201 = (8, 0))) ?_
  refine xw_G (pc' := 58) (st' := [.int (1 : Int32), .int (xm_i h2 201 1), .ref 201]) rfl rfl trivial ?_
  refine xw_G (pc' := 59) (st' := [.int ((xm_i h2 201 1) + (1 : Int32)), .ref 201]) rfl rfl trivial ?_
  refine xp_i rfl (xkf (xs_k hS rfl rfl : xm_k h2 201 = (8, 0))) (Nat.le_of_ble_eq_true rfl) hf (fun h4 e5 hf => ?_)
  have hS := xS_si hS e5
  refine xw_G (pc' := 63) (st' := [.ref 182]) rfl rfl trivial ?_
  refine xw_gr rfl (xkf (xs_k hS rfl rfl : xm_k h4 182 = (3, 0))) (xs_r hS rfl) ?_
  refine xw_G (pc' := 69) (st' := [.int (xm_i h4 201 1)]) rfl rfl (xkf (xs_k hS rfl rfl : xm_k h4 201 = (8, 0))) ?_
  refine xw_G (pc' := 70) (st' := [.ref 182, .int (xm_i h4 201 1)]) rfl rfl trivial ?_
  refine xw_gr rfl (xkf (xs_k hS rfl rfl : xm_k h4 182 = (3, 0))) (xs_rho hS) ?_
  refine xw_G (pc' := 76) (st' := [.int (xm_i h4 ρ 0), .int (xm_i h4 201 1)]) rfl rfl (xkf (xsR0 hS (xs_R hS))) ?_
  refine xj_ic_lt rfl hf (fun hc6 hf => ?_) (fun hc6 hf => ?_)
  · exact xr_v (inj := xjv) rfl rfl hf hQ hS
  · refine xw_G (pc' := 80) (st' := [.ref 182]) rfl rfl trivial ?_
    refine xw_gr rfl (xkf (xs_k hS rfl rfl : xm_k h4 182 = (3, 0))) (xs_r hS rfl) ?_
    refine xb_e hf (fun v7 h8 e9 hf => ?_)
    refine xw_V (v := none) rfl rfl (xkf (xs_k hS rfl rfl : xm_k h4 201 = (8, 0))) (Nat.le_of_ble_eq_true rfl) (Nat.le_of_ble_eq_true rfl) (xm_Rn_le (Nat.le_of_ble_eq_true rfl) (t_X7_beginDay  hS e9).1) ?_
    have hS := (t_X7_beginDay  hS e9).2
    show xm_W _ _ _ 86 _ [] _
    exact xr_v (inj := xjv) rfl rfl hf hQ hS
def f_X10_tryAhead_3B (N : Nat) (ρ : Nat) (c1 : Int32) (c2 : Int32) (c3 : Int32) (rec : Int32 → xm_H → Option (Unit × xm_H)) (c4 : Int32) (h : xm_H) : Option (Unit × xm_H) := (if c4 < c3 then (xb (f_X2_serve N ρ (c4 - c4 / (16 : Int32) * (16 : Int32)) c1 c2 h) fun v2 h3 => (xb (f_X2_passTick N ρ h3) fun v5 h6 => (rec (c4 + (1 : Int32)) h6))) else (some ((), h)))
def f_X10_tryAhead_3 (N : Nat) (ρ : Nat) (c1 : Int32) (c2 : Int32) (c3 : Int32) : Nat → Int32 → xm_H → Option (Unit × xm_H)
  | 0 => fun _ _ => none
  | n + 1 => fun c4 h => f_X10_tryAhead_3B N ρ c1 c2 c3 (f_X10_tryAhead_3 N ρ c1 c2 c3 n) c4 h
def f_X10_tryAhead (N : Nat) (ρ : Nat) (x1 : Int32) (x2 : Int32) (x3 : Int32) (h : xm_H) : Option (Unit × xm_H) := (f_X10_tryAhead_3 N ρ x1 x2 x3 N (0 : Int32) h)
theorem tl_X10_tryAhead_3 {δ : Nat} {N : Nat} {ρ : Nat} {c1 : Int32} {c2 : Int32} {c3 : Int32} {Q : xm_O → xm_H → Prop} {w : Unit × xm_H}  (hQ : xS ρ δ w.2 → Q (xjv w.1) w.2)  : ∀ (n : Nat) (c4 : Int32) (h : xm_H), xS ρ δ h → f_X10_tryAhead_3 N ρ c1 c2 c3 n c4 h = some w → xm_W (xm_Rn xX 4) xM_X10_tryAhead Q 3 [some (.ref 160), some (.int c1), some (.int c2), some (.int c3), some (.int c4)] [] h := by
  intro n
  induction n with
  | zero =>
    intro c4 h hS hf
    exact (xn_e hf).elim
  | succ n ih =>
    intro c4 h hS hf
    replace hf : f_X10_tryAhead_3B N ρ c1 c2 c3 (f_X10_tryAhead_3 N ρ c1 c2 c3 n) c4 h = some w := hf
    unfold f_X10_tryAhead_3B at hf
    refine xw_K (pc' := 5) (ls' := [some (.ref 160), some (.int c1), some (.int c2), some (.int c3), some (.int c4)]) (st' := [.int c4]) rfl rfl trivial ?_
    refine xw_G (pc' := 6) (st' := [.int c3, .int c4]) rfl rfl trivial ?_
    refine xj_ic_ge rfl hf (fun hc1 hf => ?_) (fun hc1 hf => ?_)
    · refine xw_G (pc' := 10) (st' := [.ref 160]) rfl rfl trivial ?_
      refine xw_gr rfl (xkf (xs_k hS rfl rfl : xm_k h 160 = (0, 0))) (xs_r hS rfl) ?_
      refine xw_G (pc' := 15) (st' := [.int c4, .ref 182]) rfl rfl trivial ?_
      refine xw_G (pc' := 17) (st' := [.int (16 : Int32), .int c4, .ref 182]) rfl rfl trivial ?_
      refine xw_G (pc' := 18) (st' := [.int (c4 - c4 / (16 : Int32) * (16 : Int32)), .ref 182]) rfl rfl (by decide) ?_
      refine xw_G (pc' := 19) (st' := [.int c1, .int (c4 - c4 / (16 : Int32) * (16 : Int32)), .ref 182]) rfl rfl trivial ?_
      refine xw_G (pc' := 20) (st' := [.int c2, .int c1, .int (c4 - c4 / (16 : Int32) * (16 : Int32)), .ref 182]) rfl rfl trivial ?_
      refine xb_e hf (fun v2 h3 e4 hf => ?_)
      refine xw_V (v := some (.int v2)) rfl rfl (xkf (xs_k hS rfl rfl : xm_k h 182 = (3, 0))) (Nat.le_of_ble_eq_true rfl) (Nat.le_of_ble_eq_true rfl) (xm_Rn_le (Nat.le_of_ble_eq_true rfl) (t_X2_serve  hS e4).1) ?_
      have hS := (t_X2_serve  hS e4).2
      show xm_W _ _ _ 23 _ [.int v2] _
      refine xw_G (pc' := 24) (st' := []) rfl rfl rfl ?_
      refine xw_G (pc' := 25) (st' := [.ref 160]) rfl rfl trivial ?_
      refine xw_gr rfl (xkf (xs_k hS rfl rfl : xm_k h3 160 = (0, 0))) (xs_r hS rfl) ?_
      refine xb_e hf (fun v5 h6 e7 hf => ?_)
      refine xw_V (v := none) rfl rfl (xkf (xs_k hS rfl rfl : xm_k h3 182 = (3, 0))) (Nat.le_of_ble_eq_true rfl) (Nat.le_of_ble_eq_true rfl) (xm_Rn_le (Nat.le_of_ble_eq_true rfl) (t_X2_passTick  hS e7).1) ?_
      have hS := (t_X2_passTick  hS e7).2
      show xm_W _ _ _ 31 _ [] _
      refine xw_G (pc' := 34) (ls' := [some (.ref 160), some (.int c1), some (.int c2), some (.int c3), some (.int (c4 + (1 : Int32)))]) (st' := []) rfl rfl (Nat.le_of_ble_eq_true rfl) ?_
      refine xw_G (pc' := 3) (st' := []) rfl rfl trivial ?_
      refine xw_M rfl rfl ?_
      exact ih _ _ hS hf
    · exact xr_v (inj := xjv) rfl rfl hf hQ hS
theorem t_X10_tryAhead {N : Nat} {ρ : Nat} {δ : Nat} {x1 : Int32} {x2 : Int32} {x3 : Int32} {h : xm_H} {w : Unit × xm_H}  (hS : xS ρ δ h) (hf : f_X10_tryAhead N ρ x1 x2 x3 h = some w) : xm_Rn xX 5 98 [.ref 160, .int x1, .int x2, .int x3] h (xjv w.1) w.2 ∧ xS ρ δ w.2 := by
  refine xt_mk (φ := fun h => xS ρ δ h) (M := xM_X10_tryAhead) (ls := [some (.ref 160), some (.int x1), some (.int x2), some (.int x3), none]) rfl (Nat.le_of_ble_eq_true rfl) rfl (fun Q hQ => ?_)
  unfold f_X10_tryAhead at hf
  refine xw_G (pc' := 1) (st' := [.int (0 : Int32)]) rfl rfl trivial ?_
  refine xw_G (pc' := 3) (ls' := [some (.ref 160), some (.int x1), some (.int x2), some (.int x3), some (.int (0 : Int32))]) (st' := []) rfl rfl (Nat.le_of_ble_eq_true rfl) ?_
  refine xw_M rfl rfl ?_
  refine tl_X10_tryAhead_3  hQ  _ _ _ hS hf
def f_X4_priceSum_5B (N : Nat) (c2 : Int32) (rec : Int32 → Int32 → xm_H → Option (Int32 × xm_H)) (c3 : Int32) (c4 : Int32) (h : xm_H) : Option (Int32 × xm_H) := (if c4 < c2 then (if xin c4 400 then (rec (c3 + (xm_i h 214 (Int32.toNatClampNeg c4))) (c4 + (1 : Int32)) h) else none) else (some (c3, h)))
def f_X4_priceSum_5 (N : Nat) (c2 : Int32) : Nat → Int32 → Int32 → xm_H → Option (Int32 × xm_H)
  | 0 => fun _ _ _ => none
  | n + 1 => fun c3 c4 h => f_X4_priceSum_5B N c2 (f_X4_priceSum_5 N c2 n) c3 c4 h
def f_X4_priceSum (N : Nat) (x1 : Int32) (x2 : Int32) (h : xm_H) : Option (Int32 × xm_H) := (f_X4_priceSum_5 N x2 N (0 : Int32) x1 h)
theorem tl_X4_priceSum_5 {ρ : Nat} {δ : Nat} {N : Nat} {c2 : Int32} {Q : xm_O → xm_H → Prop} {w : Int32 × xm_H}  (hQ : xS ρ δ w.2 → Q (xji w.1) w.2)  : ∀ (n : Nat) (c3 : Int32) (c4 : Int32) (h : xm_H), xS ρ δ h → f_X4_priceSum_5 N c2 n c3 c4 h = some w → xm_W (xm_Rn xX 0) xM_X4_priceSum Q 5 [some (.ref 209), none, some (.int c2), some (.int c3), some (.int c4)] [] h := by
  intro n
  induction n with
  | zero =>
    intro c3 c4 h hS hf
    exact (xn_e hf).elim
  | succ n ih =>
    intro c3 c4 h hS hf
    replace hf : f_X4_priceSum_5B N c2 (f_X4_priceSum_5 N c2 n) c3 c4 h = some w := hf
    unfold f_X4_priceSum_5B at hf
    refine xw_K (pc' := 7) (ls' := [some (.ref 209), none, some (.int c2), some (.int c3), some (.int c4)]) (st' := [.int c4]) rfl rfl trivial ?_
    refine xw_G (pc' := 8) (st' := [.int c2, .int c4]) rfl rfl trivial ?_
    refine xj_ic_ge rfl hf (fun hc1 hf => ?_) (fun hc1 hf => ?_)
    · refine xw_G (pc' := 12) (st' := [.int c3]) rfl rfl trivial ?_
      refine xw_G (pc' := 13) (st' := [.ref 209, .int c3]) rfl rfl trivial ?_
      refine xw_gr rfl (xkf (xs_k hS rfl rfl : xm_k h 209 = (5, 0))) (xs_r hS rfl) ?_
      refine xw_G (pc' := 18) (st' := [.int c4, .ref 214, .int c3]) rfl rfl trivial ?_
      refine xg_e hf (fun hg2 hf => ?_)
      refine xa_ld (t := 100) (τ := 0) (v := .int (xm_i h 214 (Int32.toNatClampNeg c4))) rfl rfl (xkf (xs_k hS rfl rfl : xm_k h 214 = (100, 400))) (xkn (xs_k hS rfl rfl : xm_k h 214 = (100, 400))) hg2 rfl ?_
      refine xw_G (pc' := 20) (st' := [.int (c3 + (xm_i h 214 (Int32.toNatClampNeg c4)))]) rfl rfl trivial ?_
      refine xw_G (pc' := 21) (ls' := [some (.ref 209), none, some (.int c2), some (.int (c3 + (xm_i h 214 (Int32.toNatClampNeg c4)))), some (.int c4)]) (st' := []) rfl rfl (Nat.le_of_ble_eq_true rfl) ?_
      refine xw_G (pc' := 24) (ls' := [some (.ref 209), none, some (.int c2), some (.int (c3 + (xm_i h 214 (Int32.toNatClampNeg c4)))), some (.int (c4 + (1 : Int32)))]) (st' := []) rfl rfl (Nat.le_of_ble_eq_true rfl) ?_
      refine xw_G (pc' := 5) (st' := []) rfl rfl trivial ?_
      refine xw_M rfl rfl ?_
      exact ih _ _ _ hS hf
    · refine xw_G (pc' := 28) (st' := [.int c3]) rfl rfl trivial ?_
      exact xr_i (inj := xji) rfl rfl rfl rfl hf hQ hS
theorem t_X4_priceSum {N : Nat} {ρ : Nat} {δ : Nat} {x1 : Int32} {x2 : Int32} {h : xm_H} {w : Int32 × xm_H}  (hS : xS ρ δ h) (hf : f_X4_priceSum N x1 x2 h = some w) : xm_Rn xX 1 32 [.ref 209, .int x1, .int x2] h (xji w.1) w.2 ∧ xS ρ δ w.2 := by
  refine xt_mk (φ := fun h => xS ρ δ h) (M := xM_X4_priceSum) (ls := [some (.ref 209), some (.int x1), some (.int x2), none, none]) rfl (Nat.le_of_ble_eq_true rfl) rfl (fun Q hQ => ?_)
  unfold f_X4_priceSum at hf
  refine xw_G (pc' := 1) (st' := [.int (0 : Int32)]) rfl rfl trivial ?_
  refine xw_G (pc' := 2) (ls' := [some (.ref 209), some (.int x1), some (.int x2), some (.int (0 : Int32)), none]) (st' := []) rfl rfl (Nat.le_of_ble_eq_true rfl) ?_
  refine xw_G (pc' := 3) (st' := [.int x1]) rfl rfl trivial ?_
  refine xw_G (pc' := 5) (ls' := [some (.ref 209), some (.int x1), some (.int x2), some (.int (0 : Int32)), some (.int x1)]) (st' := []) rfl rfl (Nat.le_of_ble_eq_true rfl) ?_
  refine xw_M rfl rfl ?_
  refine tl_X4_priceSum_5  hQ  _ _ _ _ hS hf
def f_X10_revenueAfter (N : Nat) (ρ : Nat) (x1 : Int32) (x2 : Int32) (x3 : Int32) (h : xm_H) : Option ((Int32 ⊕ Nat × Nat) × xm_H) := (xe (f_X10_requireTag ρ x1 h) (fun v1 h2 => (xe (f_X10_requireSlots ρ x2 h2) (fun v4 h5 => (xe (f_X10_requireRange x3 (1 : Int32) (60 : Int32) h5) (fun v7 h8 => (xb (f_X7_copy 220 201 h8) fun v10 h11 => (xb (f_X10_tryAhead N ρ x1 x2 x3 h11) fun v13 h14 => (xb (f_X4_priceSum N (xm_i h14 220 2) (xm_i h14 201 2) h14) fun v16 h17 => (xb (f_X7_copy 201 220 h17) fun v19 h20 => (some (.inl v16, h20))))))) (fun q22 h23 => (some (.inr q22, h23))))) (fun q25 h26 => (some (.inr q25, h26))))) (fun q28 h29 => (some (.inr q28, h29))))
theorem t_X10_revenueAfter {N : Nat} {ρ : Nat} {δ : Nat} {x1 : Int32} {x2 : Int32} {x3 : Int32} {h : xm_H} {w : (Int32 ⊕ Nat × Nat) × xm_H}  (hS : xS ρ δ h) (hf : f_X10_revenueAfter N ρ x1 x2 x3 h = some w) : xm_Rn xX 6 95 [.ref 160, .int x1, .int x2, .int x3] h (xti w.1) w.2 ∧ xS ρ δ w.2 := by
  refine xt_mk (φ := fun h => xS ρ δ h) (M := xM_X10_revenueAfter) (ls := [some (.ref 160), some (.int x1), some (.int x2), some (.int x3), none]) rfl (Nat.le_of_ble_eq_true rfl) rfl (fun Q hQ => ?_)
  unfold f_X10_revenueAfter at hf
  refine xw_G (pc' := 1) (st' := [.ref 160]) rfl rfl trivial ?_
  refine xw_G (pc' := 2) (st' := [.int x1, .ref 160]) rfl rfl trivial ?_
  refine xe_e hf (fun v1 h2 e3 hf => ?_) (fun q28 h29 e3 hf => ?_)
  · refine xw_V (v := none) rfl rfl (xkf (xs_k hS rfl rfl : xm_k h 160 = (0, 0))) (Nat.le_of_ble_eq_true rfl) (Nat.le_of_ble_eq_true rfl) (xm_Rn_le (Nat.le_of_ble_eq_true rfl) (t_X10_requireTag  hS e3).1) ?_
    have hS := (t_X10_requireTag  hS e3).2
    show xm_W _ _ _ 5 _ [] _
    refine xw_G (pc' := 6) (st' := [.ref 160]) rfl rfl trivial ?_
    refine xw_G (pc' := 7) (st' := [.int x2, .ref 160]) rfl rfl trivial ?_
    refine xe_e hf (fun v4 h5 e6 hf => ?_) (fun q25 h26 e6 hf => ?_)
    · refine xw_V (v := none) rfl rfl (xkf (xs_k hS rfl rfl : xm_k h2 160 = (0, 0))) (Nat.le_of_ble_eq_true rfl) (Nat.le_of_ble_eq_true rfl) (xm_Rn_le (Nat.le_of_ble_eq_true rfl) (t_X10_requireSlots  hS e6).1) ?_
      have hS := (t_X10_requireSlots  hS e6).2
      show xm_W _ _ _ 10 _ [] _
      refine xw_G (pc' := 11) (st' := [.int x3]) rfl rfl trivial ?_
      refine xw_G (pc' := 12) (st' := [.int (1 : Int32), .int x3]) rfl rfl trivial ?_
      refine xw_G (pc' := 14) (st' := [.int (60 : Int32), .int (1 : Int32), .int x3]) rfl rfl trivial ?_
      refine xe_e hf (fun v7 h8 e9 hf => ?_) (fun q22 h23 e9 hf => ?_)
      · refine xw_S (v := none) rfl (Nat.le_of_ble_eq_true rfl) (Nat.le_of_ble_eq_true rfl) (xm_Rn_le (Nat.le_of_ble_eq_true rfl) (t_X10_requireRange  hS e9).1) ?_
        have hS := (t_X10_requireRange  hS e9).2
        show xm_W _ _ _ 17 _ [] _
        refine xw_G (pc' := 18) (st' := [.ref 160]) rfl rfl trivial ?_
        refine xw_gr rfl (xkf (xs_k hS rfl rfl : xm_k h8 160 = (0, 0))) (xs_r hS rfl) ?_
        refine xw_G (pc' := 22) (st' := [.ref 160, .ref 220]) rfl rfl trivial ?_
        refine xw_gr rfl (xkf (xs_k hS rfl rfl : xm_k h8 160 = (0, 0))) (xs_r hS rfl) ?_
        refine xw_gr rfl (xkf (xs_k hS rfl rfl : xm_k h8 182 = (3, 0))) (xs_r hS rfl) ?_
        refine xb_e hf (fun v10 h11 e12 hf => ?_)
        refine xw_V (v := none) rfl rfl (xkf (xs_k hS rfl rfl : xm_k h8 220 = (8, 0))) (Nat.le_of_ble_eq_true rfl) (Nat.le_of_ble_eq_true rfl) (xm_Rn_le (Nat.le_of_ble_eq_true rfl) (t_X7_copy (Or.inr (Or.inl rfl)) (Or.inl rfl) hS e12).1) ?_
        have hS := (t_X7_copy (Or.inr (Or.inl rfl)) (Or.inl rfl) hS e12).2
        show xm_W _ _ _ 31 _ [] _
        refine xw_G (pc' := 32) (st' := [.ref 160]) rfl rfl trivial ?_
        refine xw_G (pc' := 33) (st' := [.int x1, .ref 160]) rfl rfl trivial ?_
        refine xw_G (pc' := 34) (st' := [.int x2, .int x1, .ref 160]) rfl rfl trivial ?_
        refine xw_G (pc' := 35) (st' := [.int x3, .int x2, .int x1, .ref 160]) rfl rfl trivial ?_
        refine xb_e hf (fun v13 h14 e15 hf => ?_)
        refine xw_V (v := none) rfl rfl (xkf (xs_k hS rfl rfl : xm_k h11 160 = (0, 0))) (Nat.le_of_ble_eq_true rfl) (Nat.le_of_ble_eq_true rfl) (xm_Rn_le (Nat.le_of_ble_eq_true rfl) (t_X10_tryAhead  hS e15).1) ?_
        have hS := (t_X10_tryAhead  hS e15).2
        show xm_W _ _ _ 38 _ [] _
        refine xw_G (pc' := 39) (st' := [.ref 160]) rfl rfl trivial ?_
        refine xw_gr rfl (xkf (xs_k hS rfl rfl : xm_k h14 160 = (0, 0))) (xs_r hS rfl) ?_
        refine xw_gr rfl (xkf (xs_k hS rfl rfl : xm_k h14 182 = (3, 0))) (xs_r hS rfl) ?_
        refine xw_G (pc' := 46) (st' := [.ref 160, .ref 209]) rfl rfl trivial ?_
        refine xw_gr rfl (xkf (xs_k hS rfl rfl : xm_k h14 160 = (0, 0))) (xs_r hS rfl) ?_
        refine xw_G (pc' := 52) (st' := [.int (xm_i h14 220 2), .ref 209]) rfl rfl (xkf (xs_k hS rfl rfl : xm_k h14 220 = (8, 0))) ?_
        refine xw_G (pc' := 53) (st' := [.ref 160, .int (xm_i h14 220 2), .ref 209]) rfl rfl trivial ?_
        refine xw_gr rfl (xkf (xs_k hS rfl rfl : xm_k h14 160 = (0, 0))) (xs_r hS rfl) ?_
        refine xw_gr rfl (xkf (xs_k hS rfl rfl : xm_k h14 182 = (3, 0))) (xs_r hS rfl) ?_
        refine xw_G (pc' := 62) (st' := [.int (xm_i h14 201 2), .int (xm_i h14 220 2), .ref 209]) rfl rfl (xkf (xs_k hS rfl rfl : xm_k h14 201 = (8, 0))) ?_
        refine xb_e hf (fun v16 h17 e18 hf => ?_)
        refine xw_V (v := some (.int v16)) rfl rfl (xkf (xs_k hS rfl rfl : xm_k h14 209 = (5, 0))) (Nat.le_of_ble_eq_true rfl) (Nat.le_of_ble_eq_true rfl) (xm_Rn_le (Nat.le_of_ble_eq_true rfl) (t_X4_priceSum  hS e18).1) ?_
        have hS := (t_X4_priceSum  hS e18).2
        show xm_W _ _ _ 65 _ [.int v16] _
        refine xw_G (pc' := 67) (ls' := [some (.ref 160), some (.int x1), some (.int x2), some (.int x3), some (.int v16)]) (st' := []) rfl rfl (Nat.le_of_ble_eq_true rfl) ?_
        refine xw_G (pc' := 68) (st' := [.ref 160]) rfl rfl trivial ?_
        refine xw_gr rfl (xkf (xs_k hS rfl rfl : xm_k h17 160 = (0, 0))) (xs_r hS rfl) ?_
        refine xw_gr rfl (xkf (xs_k hS rfl rfl : xm_k h17 182 = (3, 0))) (xs_r hS rfl) ?_
        refine xw_G (pc' := 75) (st' := [.ref 160, .ref 201]) rfl rfl trivial ?_
        refine xw_gr rfl (xkf (xs_k hS rfl rfl : xm_k h17 160 = (0, 0))) (xs_r hS rfl) ?_
        refine xb_e hf (fun v19 h20 e21 hf => ?_)
        refine xw_V (v := none) rfl rfl (xkf (xs_k hS rfl rfl : xm_k h17 201 = (8, 0))) (Nat.le_of_ble_eq_true rfl) (Nat.le_of_ble_eq_true rfl) (xm_Rn_le (Nat.le_of_ble_eq_true rfl) (t_X7_copy (Or.inl rfl) (Or.inr (Or.inl rfl)) hS e21).1) ?_
        have hS := (t_X7_copy (Or.inl rfl) (Or.inr (Or.inl rfl)) hS e21).2
        show xm_W _ _ _ 81 _ [] _
        refine xw_G (pc' := 83) (st' := [.int v16]) rfl rfl trivial ?_
        exact xr_i (inj := xti) rfl rfl rfl rfl hf hQ hS
      · refine xw_SX (x := q22) rfl (Nat.le_of_ble_eq_true rfl) (Nat.le_of_ble_eq_true rfl) (xm_Rn_le (Nat.le_of_ble_eq_true rfl) (t_X10_requireRange  hS e9).1) rfl ?_
        have hS := (t_X10_requireRange  hS e9).2
        exact xr_x (inj := xti) rfl hf hQ hS
    · refine xw_VX (x := q25) rfl rfl (xkf (xs_k hS rfl rfl : xm_k h2 160 = (0, 0))) (Nat.le_of_ble_eq_true rfl) (Nat.le_of_ble_eq_true rfl) (xm_Rn_le (Nat.le_of_ble_eq_true rfl) (t_X10_requireSlots  hS e6).1) rfl ?_
      have hS := (t_X10_requireSlots  hS e6).2
      exact xr_x (inj := xti) rfl hf hQ hS
  · refine xw_VX (x := q28) rfl rfl (xkf (xs_k hS rfl rfl : xm_k h 160 = (0, 0))) (Nat.le_of_ble_eq_true rfl) (Nat.le_of_ble_eq_true rfl) (xm_Rn_le (Nat.le_of_ble_eq_true rfl) (t_X10_requireTag  hS e3).1) rfl ?_
    have hS := (t_X10_requireTag  hS e3).2
    exact xr_x (inj := xti) rfl hf hQ hS
def f_L_revenueAfter (N : Nat) (ρ : Nat) (x1 : Int32) (x2 : Int32) (x3 : Int32) (h : xm_H) : Option (Int32 × xm_H) := (xe (f_X10_revenueAfter N ρ x1 x2 x3 h) (fun v1 h2 => (xl (xm_sl h2 316 0 (Int32.toInt64 v1)) fun h4 => (some ((0 : Int32), h4)))) (fun q6 h7 => (if (q6).1 = 14 then (some ((1 : Int32), h7)) else (if (q6).1 = 15 then (some ((2 : Int32), h7)) else none))))
theorem t_L_revenueAfter {N : Nat} {ρ : Nat} {δ : Nat} {x1 : Int32} {x2 : Int32} {x3 : Int32} {h : xm_H} {w : Int32 × xm_H}  (hS : xS ρ δ h) (hf : f_L_revenueAfter N ρ x1 x2 x3 h = some w) : xm_Rn xX 7 342 [.ref 160, .int x1, .int x2, .int x3, .ref 316] h (xji w.1) w.2 ∧ xS ρ δ w.2 := by
  refine xt_mk (φ := fun h => xS ρ δ h) (M := xM_L_revenueAfter) (ls := [some (.ref 160), some (.int x1), some (.int x2), some (.int x3), some (.ref 316), none]) rfl (Nat.le_of_ble_eq_true rfl) rfl (fun Q hQ => ?_)
  unfold f_L_revenueAfter at hf
  refine xw_G (pc' := 2) (st' := [.ref 316]) rfl rfl trivial ?_
  refine xw_G (pc' := 3) (st' := [.int (0 : Int32), .ref 316]) rfl rfl trivial ?_
  refine xw_G (pc' := 4) (st' := [.ref 160, .int (0 : Int32), .ref 316]) rfl rfl trivial ?_
  refine xw_G (pc' := 5) (st' := [.int x1, .ref 160, .int (0 : Int32), .ref 316]) rfl rfl trivial ?_
  refine xw_G (pc' := 6) (st' := [.int x2, .int x1, .ref 160, .int (0 : Int32), .ref 316]) rfl rfl trivial ?_
  refine xw_G (pc' := 7) (st' := [.int x3, .int x2, .int x1, .ref 160, .int (0 : Int32), .ref 316]) rfl rfl trivial ?_
  refine xe_e hf (fun v1 h2 e3 hf => ?_) (fun q6 h7 e3 hf => ?_)
  · refine xw_V (v := some (.int v1)) rfl rfl (xkf (xs_k hS rfl rfl : xm_k h 160 = (0, 0))) (Nat.le_of_ble_eq_true rfl) (Nat.le_of_ble_eq_true rfl) (xm_Rn_le (Nat.le_of_ble_eq_true rfl) (t_X10_revenueAfter  hS e3).1) ?_
    have hS := (t_X10_revenueAfter  hS e3).2
    show xm_W _ _ _ 10 _ [.int v1, .int (0 : Int32), .ref 316] _
    refine xw_G (pc' := 11) (st' := [.long (Int32.toInt64 v1), .int (0 : Int32), .ref 316]) rfl rfl trivial ?_
    refine xa_l rfl (xkf (xs_k hS rfl rfl : xm_k h2 316 = (104, 1))) (xkn (xs_k hS rfl rfl : xm_k h2 316 = (104, 1))) (by decide : xin (0 : Int32) 1) (Nat.le_of_ble_eq_true rfl) hf (fun h4 e5 hf => ?_)
    have hS := xS_sl hS e5
    refine xw_G (pc' := 23) (st' := []) rfl rfl trivial ?_
    refine xw_G (pc' := 24) (st' := [.int (0 : Int32)]) rfl rfl trivial ?_
    exact xr_i (inj := xji) rfl rfl rfl rfl hf hQ hS
  · by_cases hc8 : (q6).1 = 14
    · rw [if_pos hc8] at hf
      refine xw_VH (x := q6) (p := 15) rfl rfl (xkf (xs_k hS rfl rfl : xm_k h 160 = (0, 0))) (Nat.le_of_ble_eq_true rfl) (Nat.le_of_ble_eq_true rfl) (xm_Rn_le (Nat.le_of_ble_eq_true rfl) (t_X10_revenueAfter  hS e3).1) (by rw [hc8]; rfl) ?_
      have hS := (t_X10_revenueAfter  hS e3).2
      refine xw_G (pc' := 17) (ls' := [some (.ref 160), some (.int x1), some (.int x2), some (.int x3), some (.ref 316), some (.ref ((q6).2))]) (st' := []) rfl rfl (Nat.le_of_ble_eq_true rfl) ?_
      refine xw_G (pc' := 18) (st' := [.int (1 : Int32)]) rfl rfl trivial ?_
      exact xr_i (inj := xji) rfl rfl rfl rfl hf hQ hS
    · rw [if_neg hc8] at hf
      by_cases hc8 : (q6).1 = 15
      · rw [if_pos hc8] at hf
        refine xw_VH (x := q6) (p := 19) rfl rfl (xkf (xs_k hS rfl rfl : xm_k h 160 = (0, 0))) (Nat.le_of_ble_eq_true rfl) (Nat.le_of_ble_eq_true rfl) (xm_Rn_le (Nat.le_of_ble_eq_true rfl) (t_X10_revenueAfter  hS e3).1) (by rw [hc8]; rfl) ?_
        have hS := (t_X10_revenueAfter  hS e3).2
        refine xw_G (pc' := 21) (ls' := [some (.ref 160), some (.int x1), some (.int x2), some (.int x3), some (.ref 316), some (.ref ((q6).2))]) (st' := []) rfl rfl (Nat.le_of_ble_eq_true rfl) ?_
        refine xw_G (pc' := 22) (st' := [.int (2 : Int32)]) rfl rfl trivial ?_
        exact xr_i (inj := xji) rfl rfl rfl rfl hf hQ hS
      · rw [if_neg hc8] at hf
        exact (xn_e hf).elim
def f_X11_isAhead (x1 : Int32) (x2 : Int32) (h : xm_H) : Option (Int32 × xm_H) := (xb (f_X11_areSlots x1 h) fun v1 h2 => (if v1 = 0 then (some ((0 : Int32), h2)) else (xb (f_X11_between (Int32.toInt64 x2) (1 : Int64) (60 : Int64) h2) fun v5 h6 => (if v5 = 0 then (some ((0 : Int32), h6)) else (some ((1 : Int32), h6))))))
theorem t_X11_isAhead {ρ : Nat} {δ : Nat} {x1 : Int32} {x2 : Int32} {h : xm_H} {w : Int32 × xm_H}  (hS : xS ρ δ h) (hf : f_X11_isAhead x1 x2 h = some w) : xm_Rn xX 3 209 [.ref 302, .int x1, .int x2] h (xji w.1) w.2 ∧ xS ρ δ w.2 := by
  refine xt_mk (φ := fun h => xS ρ δ h) (M := xM_X11_isAhead) (ls := [some (.ref 302), some (.int x1), some (.int x2)]) rfl (Nat.le_of_ble_eq_true rfl) rfl (fun Q hQ => ?_)
  unfold f_X11_isAhead at hf
  refine xw_G (pc' := 1) (st' := [.ref 302]) rfl rfl trivial ?_
  refine xw_G (pc' := 2) (st' := [.int x1, .ref 302]) rfl rfl trivial ?_
  refine xb_e hf (fun v1 h2 e3 hf => ?_)
  refine xw_V (v := some (.int v1)) rfl rfl (xkf (xs_k hS rfl rfl : xm_k h 302 = (11, 0))) (Nat.le_of_ble_eq_true rfl) (Nat.le_of_ble_eq_true rfl) (xm_Rn_le (Nat.le_of_ble_eq_true rfl) (t_X11_areSlots  hS e3).1) ?_
  have hS := (t_X11_areSlots  hS e3).2
  show xm_W _ _ _ 5 _ [.int v1] _
  refine xj_if_eq rfl hf (fun hc4 hf => ?_) (fun hc4 hf => ?_)
  · refine xw_G (pc' := 25) (st' := [.int (0 : Int32)]) rfl rfl trivial ?_
    exact xr_i (inj := xji) rfl rfl rfl rfl hf hQ hS
  · refine xw_G (pc' := 9) (st' := [.int x2]) rfl rfl trivial ?_
    refine xw_G (pc' := 10) (st' := [.long (Int32.toInt64 x2)]) rfl rfl trivial ?_
    refine xw_G (pc' := 11) (st' := [.long (1 : Int64), .long (Int32.toInt64 x2)]) rfl rfl trivial ?_
    refine xw_G (pc' := 14) (st' := [.long (60 : Int64), .long (1 : Int64), .long (Int32.toInt64 x2)]) rfl rfl trivial ?_
    refine xb_e hf (fun v5 h6 e7 hf => ?_)
    refine xw_S (v := some (.int v5)) rfl (Nat.le_of_ble_eq_true rfl) (Nat.le_of_ble_eq_true rfl) (xm_Rn_le (Nat.le_of_ble_eq_true rfl) (t_X11_between  hS e7).1) ?_
    have hS := (t_X11_between  hS e7).2
    show xm_W _ _ _ 17 _ [.int v5] _
    refine xj_if_eq rfl hf (fun hc8 hf => ?_) (fun hc8 hf => ?_)
    · refine xw_G (pc' := 25) (st' := [.int (0 : Int32)]) rfl rfl trivial ?_
      exact xr_i (inj := xji) rfl rfl rfl rfl hf hQ hS
    · refine xw_G (pc' := 21) (st' := [.int (1 : Int32)]) rfl rfl trivial ?_
      refine xw_G (pc' := 25) (st' := [.int (1 : Int32)]) rfl rfl trivial ?_
      exact xr_i (inj := xji) rfl rfl rfl rfl hf hQ hS
def f_X11_copy_2B (N : Nat) (c0 : Nat) (c1 : Nat) (rec : Int32 → xm_H → Option (Unit × xm_H)) (c2 : Int32) (h : xm_H) : Option (Unit × xm_H) := (if c2 < (2217 : Int32) then (if (xm_k h c0).1 = 100 then (if xin c2 (xm_k h c0).2 then (if (xm_k h c1).1 = 100 then (if xin c2 (xm_k h c1).2 then (if 160 ≤ c1 then (xl (xm_si h c1 (Int32.toNatClampNeg c2) (xm_i h c0 (Int32.toNatClampNeg c2))) fun h7 => (rec (c2 + (1 : Int32)) h7)) else none) else none) else none) else none) else none) else (some ((), h)))
def f_X11_copy_2 (N : Nat) (c0 : Nat) (c1 : Nat) : Nat → Int32 → xm_H → Option (Unit × xm_H)
  | 0 => fun _ _ => none
  | n + 1 => fun c2 h => f_X11_copy_2B N c0 c1 (f_X11_copy_2 N c0 c1 n) c2 h
def f_X11_copy (N : Nat) (x0 : Nat) (x1 : Nat) (h : xm_H) : Option (Unit × xm_H) := (f_X11_copy_2 N x0 x1 N (0 : Int32) h)
theorem tl_X11_copy_2 {ρ : Nat} {δ : Nat} {N : Nat} {c0 : Nat} {c1 : Nat} {Q : xm_O → xm_H → Prop} {w : Unit × xm_H}  (hQ : xS ρ δ w.2 → Q (xjv w.1) w.2)  : ∀ (n : Nat) (c2 : Int32) (h : xm_H), xS ρ δ h → f_X11_copy_2 N c0 c1 n c2 h = some w → xm_W (xm_Rn xX 0) xM_X11_copy Q 2 [some (.ref c0), some (.ref c1), some (.int c2)] [] h := by
  intro n
  induction n with
  | zero =>
    intro c2 h hS hf
    exact (xn_e hf).elim
  | succ n ih =>
    intro c2 h hS hf
    replace hf : f_X11_copy_2B N c0 c1 (f_X11_copy_2 N c0 c1 n) c2 h = some w := hf
    unfold f_X11_copy_2B at hf
    refine xw_K (pc' := 3) (ls' := [some (.ref c0), some (.ref c1), some (.int c2)]) (st' := [.int c2]) rfl rfl trivial ?_
    refine xw_G (pc' := 6) (st' := [.int (2217 : Int32), .int c2]) rfl rfl trivial ?_
    refine xj_ic_ge rfl hf (fun hc1 hf => ?_) (fun hc1 hf => ?_)
    · refine xw_G (pc' := 10) (st' := [.ref c1]) rfl rfl trivial ?_
      refine xw_G (pc' := 11) (st' := [.int c2, .ref c1]) rfl rfl trivial ?_
      refine xw_G (pc' := 12) (st' := [.ref c0, .int c2, .ref c1]) rfl rfl trivial ?_
      refine xw_G (pc' := 13) (st' := [.int c2, .ref c0, .int c2, .ref c1]) rfl rfl trivial ?_
      refine xg_e hf (fun hg2 hf => ?_)
      refine xg_e hf (fun hg3 hf => ?_)
      refine xa_ld (t := 100) (τ := 0) (v := .int (xm_i h c0 (Int32.toNatClampNeg c2))) rfl rfl hg2 rfl hg3 rfl ?_
      refine xg_e hf (fun hg4 hf => ?_)
      refine xg_e hf (fun hg5 hf => ?_)
      refine xg_e hf (fun hg6 hf => ?_)
      refine xa_i rfl hg4 rfl hg5 hg6 hf (fun h7 e8 hf => ?_)
      have hS := xS_si hS e8
      refine xw_G (pc' := 18) (ls' := [some (.ref c0), some (.ref c1), some (.int (c2 + (1 : Int32)))]) (st' := []) rfl rfl (Nat.le_of_ble_eq_true rfl) ?_
      refine xw_G (pc' := 2) (st' := []) rfl rfl trivial ?_
      refine xw_M rfl rfl ?_
      exact ih _ _ hS hf
    · exact xr_v (inj := xjv) rfl rfl hf hQ hS
theorem t_X11_copy {N : Nat} {ρ : Nat} {δ : Nat} {x0 : Nat} {x1 : Nat} {h : xm_H} {w : Unit × xm_H}  (hS : xS ρ δ h) (hf : f_X11_copy N x0 x1 h = some w) : xm_Rn xX 1 137 [.ref x0, .ref x1] h (xjv w.1) w.2 ∧ xS ρ δ w.2 := by
  refine xt_mk (φ := fun h => xS ρ δ h) (M := xM_X11_copy) (ls := [some (.ref x0), some (.ref x1), none]) rfl (Nat.le_of_ble_eq_true rfl) rfl (fun Q hQ => ?_)
  unfold f_X11_copy at hf
  refine xw_G (pc' := 1) (st' := [.int (0 : Int32)]) rfl rfl trivial ?_
  refine xw_G (pc' := 2) (ls' := [some (.ref x0), some (.ref x1), some (.int (0 : Int32))]) (st' := []) rfl rfl (Nat.le_of_ble_eq_true rfl) ?_
  refine xw_M rfl rfl ?_
  refine tl_X11_copy_2  hQ  _ _ _ hS hf
def f_X11_takeOver_4B (N : Nat) (c1 : Int32) (rec : Int32 → Int32 → xm_H → Option (Int32 × xm_H)) (c2 : Int32) (c3 : Int32) (h : xm_H) : Option (Int32 × xm_H) := (if c3 < (xm_i h 302 28) then (if xin ((57 : Int32) + ((5 : Int32) * (xm_i h 303 1))) 2217 then (xl (xm_si h 303 (Int32.toNatClampNeg ((57 : Int32) + ((5 : Int32) * (xm_i h 303 1)))) (xm_i h 303 0)) fun h3 => (if xin (((57 : Int32) + ((5 : Int32) * (xm_i h 303 1))) + (1 : Int32)) 2217 then (xl (xm_si h3 303 (Int32.toNatClampNeg (((57 : Int32) + ((5 : Int32) * (xm_i h 303 1))) + (1 : Int32))) c1) fun h6 => (if xin c3 4 then (if xin (((57 : Int32) + ((5 : Int32) * (xm_i h 303 1))) + (2 : Int32)) 2217 then (xl (xm_si h6 303 (Int32.toNatClampNeg (((57 : Int32) + ((5 : Int32) * (xm_i h 303 1))) + (2 : Int32))) (xm_i h6 313 (Int32.toNatClampNeg c3))) fun h10 => (if xin (((57 : Int32) + ((5 : Int32) * (xm_i h 303 1))) + (3 : Int32)) 2217 then (xl (xm_si h10 303 (Int32.toNatClampNeg (((57 : Int32) + ((5 : Int32) * (xm_i h 303 1))) + (3 : Int32))) c3) fun h13 => (if xin (((57 : Int32) + ((5 : Int32) * (xm_i h 303 1))) + (4 : Int32)) 2217 then (xl (xm_si h13 303 (Int32.toNatClampNeg (((57 : Int32) + ((5 : Int32) * (xm_i h 303 1))) + (4 : Int32))) (xm_i h13 314 (Int32.toNatClampNeg c3))) fun h16 => (xl (xm_si h16 303 1 ((xm_i h16 303 1) + (1 : Int32))) fun h18 => (xb (f_X11_of (xm_i h18 313 (Int32.toNatClampNeg c3)) (2 : Int32) h18) fun v20 h21 => (xb (f_X11_set (xm_i h18 313 (Int32.toNatClampNeg c3)) (2 : Int32) (v20 + (xm_i h21 314 (Int32.toNatClampNeg c3))) h21) fun v23 h24 => (rec (c2 + (xm_i h24 314 (Int32.toNatClampNeg c3))) (c3 + (1 : Int32)) h24))))) else none)) else none)) else none) else none)) else none)) else none) else (some (c2, h)))
def f_X11_takeOver_4 (N : Nat) (c1 : Int32) : Nat → Int32 → Int32 → xm_H → Option (Int32 × xm_H)
  | 0 => fun _ _ _ => none
  | n + 1 => fun c2 c3 h => f_X11_takeOver_4B N c1 (f_X11_takeOver_4 N c1 n) c2 c3 h
def f_X11_takeOver (N : Nat) (x1 : Int32) (h : xm_H) : Option (Int32 × xm_H) := (f_X11_takeOver_4 N x1 N (0 : Int32) (0 : Int32) h)
theorem tl_X11_takeOver_4 {ρ : Nat} {δ : Nat} {N : Nat} {c1 : Int32} {Q : xm_O → xm_H → Prop} {w : Int32 × xm_H}  (hQ : xS ρ δ w.2 → Q (xji w.1) w.2)  : ∀ (n : Nat) (c2 : Int32) (c3 : Int32) (h : xm_H), xS ρ δ h → f_X11_takeOver_4 N c1 n c2 c3 h = some w → xm_W (xm_Rn xX 1) xM_X11_takeOver Q 4 [some (.ref 302), some (.int c1), some (.int c2), some (.int c3), none] [] h := by
  intro n
  induction n with
  | zero =>
    intro c2 c3 h hS hf
    exact (xn_e hf).elim
  | succ n ih =>
    intro c2 c3 h hS hf
    replace hf : f_X11_takeOver_4B N c1 (f_X11_takeOver_4 N c1 n) c2 c3 h = some w := hf
    unfold f_X11_takeOver_4B at hf
    refine xw_K (pc' := 5) (ls' := [some (.ref 302), some (.int c1), some (.int c2), some (.int c3), none]) (st' := [.int c3]) rfl rfl trivial ?_
    refine xw_G (pc' := 6) (st' := [.ref 302, .int c3]) rfl rfl trivial ?_
    refine xw_G (pc' := 9) (st' := [.int (xm_i h 302 28), .int c3]) rfl rfl (xkf (xs_k hS rfl rfl : xm_k h 302 = (11, 0))) ?_
    refine xj_ic_ge rfl hf (fun hc1 hf => ?_) (fun hc1 hf => ?_)
    · refine xw_G (pc' := 14) (st' := [.int (57 : Int32)]) rfl rfl trivial ?_
      refine xw_G (pc' := 15) (st' := [.int (5 : Int32), .int (57 : Int32)]) rfl rfl trivial ?_
      refine xw_G (pc' := 16) (st' := [.ref 302, .int (5 : Int32), .int (57 : Int32)]) rfl rfl trivial ?_
      refine xw_gr rfl (xkf (xs_k hS rfl rfl : xm_k h 302 = (11, 0))) (xs_r hS rfl) ?_
      refine xw_G (pc' := 20) (st' := [.int (1 : Int32), .ref 303, .int (5 : Int32), .int (57 : Int32)]) rfl rfl trivial ?_
      refine xa_ld (t := 100) (τ := 0) (v := .int (xm_i h 303 1)) rfl rfl (xkf (xs_k hS rfl rfl : xm_k h 303 = (100, 2217))) (xkn (xs_k hS rfl rfl : xm_k h 303 = (100, 2217))) (by decide : xin (1 : Int32) 2217) rfl ?_
      refine xw_G (pc' := 22) (st' := [.int ((5 : Int32) * (xm_i h 303 1)), .int (57 : Int32)]) rfl rfl trivial ?_
      refine xw_G (pc' := 23) (st' := [.int ((57 : Int32) + ((5 : Int32) * (xm_i h 303 1)))]) rfl rfl trivial ?_
      refine xw_G (pc' := 25) (ls' := [some (.ref 302), some (.int c1), some (.int c2), some (.int c3), some (.int ((57 : Int32) + ((5 : Int32) * (xm_i h 303 1))))]) (st' := []) rfl rfl (Nat.le_of_ble_eq_true rfl) ?_
      refine xw_G (pc' := 26) (st' := [.ref 302]) rfl rfl trivial ?_
      refine xw_gr rfl (xkf (xs_k hS rfl rfl : xm_k h 302 = (11, 0))) (xs_r hS rfl) ?_
      refine xw_G (pc' := 31) (st' := [.int ((57 : Int32) + ((5 : Int32) * (xm_i h 303 1))), .ref 303]) rfl rfl trivial ?_
      refine xw_G (pc' := 32) (st' := [.ref 302, .int ((57 : Int32) + ((5 : Int32) * (xm_i h 303 1))), .ref 303]) rfl rfl trivial ?_
      refine xw_gr rfl (xkf (xs_k hS rfl rfl : xm_k h 302 = (11, 0))) (xs_r hS rfl) ?_
      refine xw_G (pc' := 36) (st' := [.int (0 : Int32), .ref 303, .int ((57 : Int32) + ((5 : Int32) * (xm_i h 303 1))), .ref 303]) rfl rfl trivial ?_
      refine xa_ld (t := 100) (τ := 0) (v := .int (xm_i h 303 0)) rfl rfl (xkf (xs_k hS rfl rfl : xm_k h 303 = (100, 2217))) (xkn (xs_k hS rfl rfl : xm_k h 303 = (100, 2217))) (by decide : xin (0 : Int32) 2217) rfl ?_
      refine xg_e hf (fun hg2 hf => ?_)
      refine xa_i rfl (xkf (xs_k hS rfl rfl : xm_k h 303 = (100, 2217))) (xkn (xs_k hS rfl rfl : xm_k h 303 = (100, 2217))) hg2 (Nat.le_of_ble_eq_true rfl) hf (fun h3 e4 hf => ?_)
      have hS := xS_si hS e4
      refine xw_G (pc' := 39) (st' := [.ref 302]) rfl rfl trivial ?_
      refine xw_gr rfl (xkf (xs_k hS rfl rfl : xm_k h3 302 = (11, 0))) (xs_r hS rfl) ?_
      refine xw_G (pc' := 44) (st' := [.int ((57 : Int32) + ((5 : Int32) * (xm_i h 303 1))), .ref 303]) rfl rfl trivial ?_
      refine xw_G (pc' := 45) (st' := [.int (1 : Int32), .int ((57 : Int32) + ((5 : Int32) * (xm_i h 303 1))), .ref 303]) rfl rfl trivial ?_
      refine xw_G (pc' := 46) (st' := [.int (((57 : Int32) + ((5 : Int32) * (xm_i h 303 1))) + (1 : Int32)), .ref 303]) rfl rfl trivial ?_
      refine xw_G (pc' := 47) (st' := [.int c1, .int (((57 : Int32) + ((5 : Int32) * (xm_i h 303 1))) + (1 : Int32)), .ref 303]) rfl rfl trivial ?_
      refine xg_e hf (fun hg5 hf => ?_)
      refine xa_i rfl (xkf (xs_k hS rfl rfl : xm_k h3 303 = (100, 2217))) (xkn (xs_k hS rfl rfl : xm_k h3 303 = (100, 2217))) hg5 (Nat.le_of_ble_eq_true rfl) hf (fun h6 e7 hf => ?_)
      have hS := xS_si hS e7
      refine xw_G (pc' := 49) (st' := [.ref 302]) rfl rfl trivial ?_
      refine xw_gr rfl (xkf (xs_k hS rfl rfl : xm_k h6 302 = (11, 0))) (xs_r hS rfl) ?_
      refine xw_G (pc' := 54) (st' := [.int ((57 : Int32) + ((5 : Int32) * (xm_i h 303 1))), .ref 303]) rfl rfl trivial ?_
      refine xw_G (pc' := 55) (st' := [.int (2 : Int32), .int ((57 : Int32) + ((5 : Int32) * (xm_i h 303 1))), .ref 303]) rfl rfl trivial ?_
      refine xw_G (pc' := 56) (st' := [.int (((57 : Int32) + ((5 : Int32) * (xm_i h 303 1))) + (2 : Int32)), .ref 303]) rfl rfl trivial ?_
      refine xw_G (pc' := 57) (st' := [.ref 302, .int (((57 : Int32) + ((5 : Int32) * (xm_i h 303 1))) + (2 : Int32)), .ref 303]) rfl rfl trivial ?_
      refine xw_gr rfl (xkf (xs_k hS rfl rfl : xm_k h6 302 = (11, 0))) (xs_r hS rfl) ?_
      refine xw_G (pc' := 61) (st' := [.int c3, .ref 313, .int (((57 : Int32) + ((5 : Int32) * (xm_i h 303 1))) + (2 : Int32)), .ref 303]) rfl rfl trivial ?_
      refine xg_e hf (fun hg8 hf => ?_)
      refine xa_ld (t := 100) (τ := 0) (v := .int (xm_i h6 313 (Int32.toNatClampNeg c3))) rfl rfl (xkf (xs_k hS rfl rfl : xm_k h6 313 = (100, 4))) (xkn (xs_k hS rfl rfl : xm_k h6 313 = (100, 4))) hg8 rfl ?_
      refine xg_e hf (fun hg9 hf => ?_)
      refine xa_i rfl (xkf (xs_k hS rfl rfl : xm_k h6 303 = (100, 2217))) (xkn (xs_k hS rfl rfl : xm_k h6 303 = (100, 2217))) hg9 (Nat.le_of_ble_eq_true rfl) hf (fun h10 e11 hf => ?_)
      have hS := xS_si hS e11
      refine xw_G (pc' := 64) (st' := [.ref 302]) rfl rfl trivial ?_
      refine xw_gr rfl (xkf (xs_k hS rfl rfl : xm_k h10 302 = (11, 0))) (xs_r hS rfl) ?_
      refine xw_G (pc' := 69) (st' := [.int ((57 : Int32) + ((5 : Int32) * (xm_i h 303 1))), .ref 303]) rfl rfl trivial ?_
      refine xw_G (pc' := 70) (st' := [.int (3 : Int32), .int ((57 : Int32) + ((5 : Int32) * (xm_i h 303 1))), .ref 303]) rfl rfl trivial ?_
      refine xw_G (pc' := 71) (st' := [.int (((57 : Int32) + ((5 : Int32) * (xm_i h 303 1))) + (3 : Int32)), .ref 303]) rfl rfl trivial ?_
      refine xw_G (pc' := 72) (st' := [.int c3, .int (((57 : Int32) + ((5 : Int32) * (xm_i h 303 1))) + (3 : Int32)), .ref 303]) rfl rfl trivial ?_
      refine xg_e hf (fun hg12 hf => ?_)
      refine xa_i rfl (xkf (xs_k hS rfl rfl : xm_k h10 303 = (100, 2217))) (xkn (xs_k hS rfl rfl : xm_k h10 303 = (100, 2217))) hg12 (Nat.le_of_ble_eq_true rfl) hf (fun h13 e14 hf => ?_)
      have hS := xS_si hS e14
      refine xw_G (pc' := 74) (st' := [.ref 302]) rfl rfl trivial ?_
      refine xw_gr rfl (xkf (xs_k hS rfl rfl : xm_k h13 302 = (11, 0))) (xs_r hS rfl) ?_
      refine xw_G (pc' := 79) (st' := [.int ((57 : Int32) + ((5 : Int32) * (xm_i h 303 1))), .ref 303]) rfl rfl trivial ?_
      refine xw_G (pc' := 80) (st' := [.int (4 : Int32), .int ((57 : Int32) + ((5 : Int32) * (xm_i h 303 1))), .ref 303]) rfl rfl trivial ?_
      refine xw_G (pc' := 81) (st' := [.int (((57 : Int32) + ((5 : Int32) * (xm_i h 303 1))) + (4 : Int32)), .ref 303]) rfl rfl trivial ?_
      refine xw_G (pc' := 82) (st' := [.ref 302, .int (((57 : Int32) + ((5 : Int32) * (xm_i h 303 1))) + (4 : Int32)), .ref 303]) rfl rfl trivial ?_
      refine xw_gr rfl (xkf (xs_k hS rfl rfl : xm_k h13 302 = (11, 0))) (xs_r hS rfl) ?_
      refine xw_G (pc' := 86) (st' := [.int c3, .ref 314, .int (((57 : Int32) + ((5 : Int32) * (xm_i h 303 1))) + (4 : Int32)), .ref 303]) rfl rfl trivial ?_
      refine xa_ld (t := 100) (τ := 0) (v := .int (xm_i h13 314 (Int32.toNatClampNeg c3))) rfl rfl (xkf (xs_k hS rfl rfl : xm_k h13 314 = (100, 4))) (xkn (xs_k hS rfl rfl : xm_k h13 314 = (100, 4))) hg8 rfl ?_
      refine xg_e hf (fun hg15 hf => ?_)
      refine xa_i rfl (xkf (xs_k hS rfl rfl : xm_k h13 303 = (100, 2217))) (xkn (xs_k hS rfl rfl : xm_k h13 303 = (100, 2217))) hg15 (Nat.le_of_ble_eq_true rfl) hf (fun h16 e17 hf => ?_)
      have hS := xS_si hS e17
      refine xw_G (pc' := 89) (st' := [.ref 302]) rfl rfl trivial ?_
      refine xw_gr rfl (xkf (xs_k hS rfl rfl : xm_k h16 302 = (11, 0))) (xs_r hS rfl) ?_
      refine xw_G (pc' := 93) (st' := [.int (1 : Int32), .ref 303]) rfl rfl trivial ?_
      refine xw_G (pc' := 94) (st' := [.int (1 : Int32), .ref 303, .int (1 : Int32), .ref 303]) rfl rfl ⟨rfl, rfl⟩ ?_
      refine xa_ld (t := 100) (τ := 0) (v := .int (xm_i h16 303 1)) rfl rfl (xkf (xs_k hS rfl rfl : xm_k h16 303 = (100, 2217))) (xkn (xs_k hS rfl rfl : xm_k h16 303 = (100, 2217))) (by decide : xin (1 : Int32) 2217) rfl ?_
      refine xw_G (pc' := 96) (st' := [.int (1 : Int32), .int (xm_i h16 303 1), .int (1 : Int32), .ref 303]) rfl rfl trivial ?_
      refine xw_G (pc' := 97) (st' := [.int ((xm_i h16 303 1) + (1 : Int32)), .int (1 : Int32), .ref 303]) rfl rfl trivial ?_
      refine xa_i rfl (xkf (xs_k hS rfl rfl : xm_k h16 303 = (100, 2217))) (xkn (xs_k hS rfl rfl : xm_k h16 303 = (100, 2217))) (by decide : xin (1 : Int32) 2217) (Nat.le_of_ble_eq_true rfl) hf (fun h18 e19 hf => ?_)
      have hS := xS_si hS e19
      refine xw_G (pc' := 99) (st' := [.ref 302]) rfl rfl trivial ?_
      refine xw_G (pc' := 100) (st' := [.ref 302, .ref 302]) rfl rfl trivial ?_
      refine xw_gr rfl (xkf (xs_k hS rfl rfl : xm_k h18 302 = (11, 0))) (xs_r hS rfl) ?_
      refine xw_G (pc' := 104) (st' := [.int c3, .ref 313, .ref 302]) rfl rfl trivial ?_
      refine xa_ld (t := 100) (τ := 0) (v := .int (xm_i h18 313 (Int32.toNatClampNeg c3))) rfl rfl (xkf (xs_k hS rfl rfl : xm_k h18 313 = (100, 4))) (xkn (xs_k hS rfl rfl : xm_k h18 313 = (100, 4))) hg8 rfl ?_
      refine xw_G (pc' := 106) (st' := [.int (2 : Int32), .int (xm_i h18 313 (Int32.toNatClampNeg c3)), .ref 302]) rfl rfl trivial ?_
      refine xw_G (pc' := 107) (st' := [.ref 302, .int (2 : Int32), .int (xm_i h18 313 (Int32.toNatClampNeg c3)), .ref 302]) rfl rfl trivial ?_
      refine xw_G (pc' := 108) (st' := [.ref 302, .ref 302, .int (2 : Int32), .int (xm_i h18 313 (Int32.toNatClampNeg c3)), .ref 302]) rfl rfl trivial ?_
      refine xw_gr rfl (xkf (xs_k hS rfl rfl : xm_k h18 302 = (11, 0))) (xs_r hS rfl) ?_
      refine xw_G (pc' := 112) (st' := [.int c3, .ref 313, .ref 302, .int (2 : Int32), .int (xm_i h18 313 (Int32.toNatClampNeg c3)), .ref 302]) rfl rfl trivial ?_
      refine xa_ld (t := 100) (τ := 0) (v := .int (xm_i h18 313 (Int32.toNatClampNeg c3))) rfl rfl (xkf (xs_k hS rfl rfl : xm_k h18 313 = (100, 4))) (xkn (xs_k hS rfl rfl : xm_k h18 313 = (100, 4))) hg8 rfl ?_
      refine xw_G (pc' := 114) (st' := [.int (2 : Int32), .int (xm_i h18 313 (Int32.toNatClampNeg c3)), .ref 302, .int (2 : Int32), .int (xm_i h18 313 (Int32.toNatClampNeg c3)), .ref 302]) rfl rfl trivial ?_
      refine xb_e hf (fun v20 h21 e22 hf => ?_)
      refine xw_V (v := some (.int v20)) rfl rfl (xkf (xs_k hS rfl rfl : xm_k h18 302 = (11, 0))) (Nat.le_of_ble_eq_true rfl) (Nat.le_of_ble_eq_true rfl) (xm_Rn_le (Nat.le_of_ble_eq_true rfl) (t_X11_of  hS e22).1) ?_
      have hS := (t_X11_of  hS e22).2
      show xm_W _ _ _ 117 _ [.int v20, .int (2 : Int32), .int (xm_i h18 313 (Int32.toNatClampNeg c3)), .ref 302] _
      refine xw_G (pc' := 118) (st' := [.ref 302, .int v20, .int (2 : Int32), .int (xm_i h18 313 (Int32.toNatClampNeg c3)), .ref 302]) rfl rfl trivial ?_
      refine xw_gr rfl (xkf (xs_k hS rfl rfl : xm_k h21 302 = (11, 0))) (xs_r hS rfl) ?_
      refine xw_G (pc' := 122) (st' := [.int c3, .ref 314, .int v20, .int (2 : Int32), .int (xm_i h18 313 (Int32.toNatClampNeg c3)), .ref 302]) rfl rfl trivial ?_
      refine xa_ld (t := 100) (τ := 0) (v := .int (xm_i h21 314 (Int32.toNatClampNeg c3))) rfl rfl (xkf (xs_k hS rfl rfl : xm_k h21 314 = (100, 4))) (xkn (xs_k hS rfl rfl : xm_k h21 314 = (100, 4))) hg8 rfl ?_
      refine xw_G (pc' := 124) (st' := [.int (v20 + (xm_i h21 314 (Int32.toNatClampNeg c3))), .int (2 : Int32), .int (xm_i h18 313 (Int32.toNatClampNeg c3)), .ref 302]) rfl rfl trivial ?_
      refine xb_e hf (fun v23 h24 e25 hf => ?_)
      refine xw_V (v := none) rfl rfl (xkf (xs_k hS rfl rfl : xm_k h21 302 = (11, 0))) (Nat.le_of_ble_eq_true rfl) (Nat.le_of_ble_eq_true rfl) (xm_Rn_le (Nat.le_of_ble_eq_true rfl) (t_X11_set  hS e25).1) ?_
      have hS := (t_X11_set  hS e25).2
      show xm_W _ _ _ 127 _ [] _
      refine xw_G (pc' := 128) (st' := [.int c2]) rfl rfl trivial ?_
      refine xw_G (pc' := 129) (st' := [.ref 302, .int c2]) rfl rfl trivial ?_
      refine xw_gr rfl (xkf (xs_k hS rfl rfl : xm_k h24 302 = (11, 0))) (xs_r hS rfl) ?_
      refine xw_G (pc' := 133) (st' := [.int c3, .ref 314, .int c2]) rfl rfl trivial ?_
      refine xa_ld (t := 100) (τ := 0) (v := .int (xm_i h24 314 (Int32.toNatClampNeg c3))) rfl rfl (xkf (xs_k hS rfl rfl : xm_k h24 314 = (100, 4))) (xkn (xs_k hS rfl rfl : xm_k h24 314 = (100, 4))) hg8 rfl ?_
      refine xw_G (pc' := 135) (st' := [.int (c2 + (xm_i h24 314 (Int32.toNatClampNeg c3)))]) rfl rfl trivial ?_
      refine xw_G (pc' := 136) (ls' := [some (.ref 302), some (.int c1), some (.int (c2 + (xm_i h24 314 (Int32.toNatClampNeg c3)))), some (.int c3), some (.int ((57 : Int32) + ((5 : Int32) * (xm_i h 303 1))))]) (st' := []) rfl rfl (Nat.le_of_ble_eq_true rfl) ?_
      refine xw_G (pc' := 139) (ls' := [some (.ref 302), some (.int c1), some (.int (c2 + (xm_i h24 314 (Int32.toNatClampNeg c3)))), some (.int (c3 + (1 : Int32))), some (.int ((57 : Int32) + ((5 : Int32) * (xm_i h 303 1))))]) (st' := []) rfl rfl (Nat.le_of_ble_eq_true rfl) ?_
      refine xw_G (pc' := 4) (st' := []) rfl rfl trivial ?_
      refine xw_M rfl rfl ?_
      exact ih _ _ _ hS hf
    · refine xw_G (pc' := 143) (st' := [.int c2]) rfl rfl trivial ?_
      exact xr_i (inj := xji) rfl rfl rfl rfl hf hQ hS
theorem t_X11_takeOver {N : Nat} {ρ : Nat} {δ : Nat} {x1 : Int32} {h : xm_H} {w : Int32 × xm_H}  (hS : xS ρ δ h) (hf : f_X11_takeOver N x1 h = some w) : xm_Rn xX 2 196 [.ref 302, .int x1] h (xji w.1) w.2 ∧ xS ρ δ w.2 := by
  refine xt_mk (φ := fun h => xS ρ δ h) (M := xM_X11_takeOver) (ls := [some (.ref 302), some (.int x1), none, none, none]) rfl (Nat.le_of_ble_eq_true rfl) rfl (fun Q hQ => ?_)
  unfold f_X11_takeOver at hf
  refine xw_G (pc' := 1) (st' := [.int (0 : Int32)]) rfl rfl trivial ?_
  refine xw_G (pc' := 2) (ls' := [some (.ref 302), some (.int x1), some (.int (0 : Int32)), none, none]) (st' := []) rfl rfl (Nat.le_of_ble_eq_true rfl) ?_
  refine xw_G (pc' := 3) (st' := [.int (0 : Int32)]) rfl rfl trivial ?_
  refine xw_G (pc' := 4) (ls' := [some (.ref 302), some (.int x1), some (.int (0 : Int32)), some (.int (0 : Int32)), none]) (st' := []) rfl rfl (Nat.le_of_ble_eq_true rfl) ?_
  refine xw_M rfl rfl ?_
  refine tl_X11_takeOver_4  hQ  _ _ _ _ hS hf
def f_X11_control (x1 : Int32) (h : xm_H) : Option (Unit × xm_H) := (xb (f_X11_of x1 (4 : Int32) h) fun v1 h2 => (if v1 = 0 then (some ((), h2)) else (xb (f_X11_planOf x1 h2) fun v5 h6 => (xb (f_X11_of x1 (3 : Int32) h6) fun v8 h9 => (xb (f_X11_of x1 (2 : Int32) h9) fun v11 h12 => (if v5 < v11 then (xb (f_X11_set x1 (3 : Int32) (if (10 : Int32) < (v8 - (10 : Int32)) then (v8 - (10 : Int32)) else (10 : Int32)) h12) fun v15 h16 => (some ((), h16))) else (xb (f_X11_of x1 (2 : Int32) h12) fun v18 h19 => (if v18 < v5 then (xb (f_X11_set x1 (3 : Int32) (if (v8 + (5 : Int32)) < (100 : Int32) then (v8 + (5 : Int32)) else (100 : Int32)) h19) fun v22 h23 => (some ((), h23))) else (some ((), h19))))))))))
theorem t_X11_control {ρ : Nat} {δ : Nat} {x1 : Int32} {h : xm_H} {w : Unit × xm_H}  (hS : xS ρ δ h) (hf : f_X11_control x1 h = some w) : xm_Rn xX 3 197 [.ref 302, .int x1] h (xjv w.1) w.2 ∧ xS ρ δ w.2 := by
  refine xt_mk (φ := fun h => xS ρ δ h) (M := xM_X11_control) (ls := [some (.ref 302), some (.int x1), none, none]) rfl (Nat.le_of_ble_eq_true rfl) rfl (fun Q hQ => ?_)
  unfold f_X11_control at hf
  refine xw_G (pc' := 1) (st' := [.ref 302]) rfl rfl trivial ?_
  refine xw_G (pc' := 2) (st' := [.int x1, .ref 302]) rfl rfl trivial ?_
  refine xw_G (pc' := 3) (st' := [.int (4 : Int32), .int x1, .ref 302]) rfl rfl trivial ?_
  refine xb_e hf (fun v1 h2 e3 hf => ?_)
  refine xw_V (v := some (.int v1)) rfl rfl (xkf (xs_k hS rfl rfl : xm_k h 302 = (11, 0))) (Nat.le_of_ble_eq_true rfl) (Nat.le_of_ble_eq_true rfl) (xm_Rn_le (Nat.le_of_ble_eq_true rfl) (t_X11_of  hS e3).1) ?_
  have hS := (t_X11_of  hS e3).2
  show xm_W _ _ _ 6 _ [.int v1] _
  refine xj_if_ne rfl hf (fun hc4 hf => ?_) (fun hc4 hf => ?_)
  · exact xr_v (inj := xjv) rfl rfl hf hQ hS
  · refine xw_G (pc' := 11) (st' := [.ref 302]) rfl rfl trivial ?_
    refine xw_G (pc' := 12) (st' := [.int x1, .ref 302]) rfl rfl trivial ?_
    refine xb_e hf (fun v5 h6 e7 hf => ?_)
    refine xw_V (v := some (.int v5)) rfl rfl (xkf (xs_k hS rfl rfl : xm_k h2 302 = (11, 0))) (Nat.le_of_ble_eq_true rfl) (Nat.le_of_ble_eq_true rfl) (xm_Rn_le (Nat.le_of_ble_eq_true rfl) (t_X11_planOf  hS e7).1) ?_
    have hS := (t_X11_planOf  hS e7).2
    show xm_W _ _ _ 15 _ [.int v5] _
    refine xw_G (pc' := 16) (ls' := [some (.ref 302), some (.int x1), some (.int v5), none]) (st' := []) rfl rfl (Nat.le_of_ble_eq_true rfl) ?_
    refine xw_G (pc' := 17) (st' := [.ref 302]) rfl rfl trivial ?_
    refine xw_G (pc' := 18) (st' := [.int x1, .ref 302]) rfl rfl trivial ?_
    refine xw_G (pc' := 19) (st' := [.int (3 : Int32), .int x1, .ref 302]) rfl rfl trivial ?_
    refine xb_e hf (fun v8 h9 e10 hf => ?_)
    refine xw_V (v := some (.int v8)) rfl rfl (xkf (xs_k hS rfl rfl : xm_k h6 302 = (11, 0))) (Nat.le_of_ble_eq_true rfl) (Nat.le_of_ble_eq_true rfl) (xm_Rn_le (Nat.le_of_ble_eq_true rfl) (t_X11_of  hS e10).1) ?_
    have hS := (t_X11_of  hS e10).2
    show xm_W _ _ _ 22 _ [.int v8] _
    refine xw_G (pc' := 23) (ls' := [some (.ref 302), some (.int x1), some (.int v5), some (.int v8)]) (st' := []) rfl rfl (Nat.le_of_ble_eq_true rfl) ?_
    refine xw_G (pc' := 24) (st' := [.ref 302]) rfl rfl trivial ?_
    refine xw_G (pc' := 25) (st' := [.int x1, .ref 302]) rfl rfl trivial ?_
    refine xw_G (pc' := 26) (st' := [.int (2 : Int32), .int x1, .ref 302]) rfl rfl trivial ?_
    refine xb_e hf (fun v11 h12 e13 hf => ?_)
    refine xw_V (v := some (.int v11)) rfl rfl (xkf (xs_k hS rfl rfl : xm_k h9 302 = (11, 0))) (Nat.le_of_ble_eq_true rfl) (Nat.le_of_ble_eq_true rfl) (xm_Rn_le (Nat.le_of_ble_eq_true rfl) (t_X11_of  hS e13).1) ?_
    have hS := (t_X11_of  hS e13).2
    show xm_W _ _ _ 29 _ [.int v11] _
    refine xw_G (pc' := 30) (st' := [.int v5, .int v11]) rfl rfl trivial ?_
    refine xj_ic_le rfl hf (fun hc14 hf => ?_) (fun hc14 hf => ?_)
    · refine xw_G (pc' := 34) (st' := [.ref 302]) rfl rfl trivial ?_
      refine xw_G (pc' := 35) (st' := [.int x1, .ref 302]) rfl rfl trivial ?_
      refine xw_G (pc' := 36) (st' := [.int (3 : Int32), .int x1, .ref 302]) rfl rfl trivial ?_
      refine xw_G (pc' := 38) (st' := [.int (10 : Int32), .int (3 : Int32), .int x1, .ref 302]) rfl rfl trivial ?_
      refine xw_G (pc' := 39) (st' := [.int v8, .int (10 : Int32), .int (3 : Int32), .int x1, .ref 302]) rfl rfl trivial ?_
      refine xw_G (pc' := 41) (st' := [.int (10 : Int32), .int v8, .int (10 : Int32), .int (3 : Int32), .int x1, .ref 302]) rfl rfl trivial ?_
      refine xw_G (pc' := 42) (st' := [.int (v8 - (10 : Int32)), .int (10 : Int32), .int (3 : Int32), .int x1, .ref 302]) rfl rfl trivial ?_
      refine xw_max rfl (Nat.le_of_ble_eq_true rfl) ?_
      refine xb_e hf (fun v15 h16 e17 hf => ?_)
      refine xw_V (v := none) rfl rfl (xkf (xs_k hS rfl rfl : xm_k h12 302 = (11, 0))) (Nat.le_of_ble_eq_true rfl) (Nat.le_of_ble_eq_true rfl) (xm_Rn_le (Nat.le_of_ble_eq_true rfl) (t_X11_set  hS e17).1) ?_
      have hS := (t_X11_set  hS e17).2
      show xm_W _ _ _ 48 _ [] _
      refine xw_G (pc' := 75) (st' := []) rfl rfl trivial ?_
      exact xr_v (inj := xjv) rfl rfl hf hQ hS
    · refine xw_G (pc' := 52) (st' := [.ref 302]) rfl rfl trivial ?_
      refine xw_G (pc' := 53) (st' := [.int x1, .ref 302]) rfl rfl trivial ?_
      refine xw_G (pc' := 54) (st' := [.int (2 : Int32), .int x1, .ref 302]) rfl rfl trivial ?_
      refine xb_e hf (fun v18 h19 e20 hf => ?_)
      refine xw_V (v := some (.int v18)) rfl rfl (xkf (xs_k hS rfl rfl : xm_k h12 302 = (11, 0))) (Nat.le_of_ble_eq_true rfl) (Nat.le_of_ble_eq_true rfl) (xm_Rn_le (Nat.le_of_ble_eq_true rfl) (t_X11_of  hS e20).1) ?_
      have hS := (t_X11_of  hS e20).2
      show xm_W _ _ _ 57 _ [.int v18] _
      refine xw_G (pc' := 58) (st' := [.int v5, .int v18]) rfl rfl trivial ?_
      refine xj_ic_ge rfl hf (fun hc21 hf => ?_) (fun hc21 hf => ?_)
      · refine xw_G (pc' := 62) (st' := [.ref 302]) rfl rfl trivial ?_
        refine xw_G (pc' := 63) (st' := [.int x1, .ref 302]) rfl rfl trivial ?_
        refine xw_G (pc' := 64) (st' := [.int (3 : Int32), .int x1, .ref 302]) rfl rfl trivial ?_
        refine xw_G (pc' := 66) (st' := [.int (100 : Int32), .int (3 : Int32), .int x1, .ref 302]) rfl rfl trivial ?_
        refine xw_G (pc' := 67) (st' := [.int v8, .int (100 : Int32), .int (3 : Int32), .int x1, .ref 302]) rfl rfl trivial ?_
        refine xw_G (pc' := 68) (st' := [.int (5 : Int32), .int v8, .int (100 : Int32), .int (3 : Int32), .int x1, .ref 302]) rfl rfl trivial ?_
        refine xw_G (pc' := 69) (st' := [.int (v8 + (5 : Int32)), .int (100 : Int32), .int (3 : Int32), .int x1, .ref 302]) rfl rfl trivial ?_
        refine xw_min rfl (Nat.le_of_ble_eq_true rfl) ?_
        refine xb_e hf (fun v22 h23 e24 hf => ?_)
        refine xw_V (v := none) rfl rfl (xkf (xs_k hS rfl rfl : xm_k h19 302 = (11, 0))) (Nat.le_of_ble_eq_true rfl) (Nat.le_of_ble_eq_true rfl) (xm_Rn_le (Nat.le_of_ble_eq_true rfl) (t_X11_set  hS e24).1) ?_
        have hS := (t_X11_set  hS e24).2
        show xm_W _ _ _ 75 _ [] _
        exact xr_v (inj := xjv) rfl rfl hf hQ hS
      · exact xr_v (inj := xjv) rfl rfl hf hQ hS
def f_X11_passTick_2B (N : Nat) (k24 : xm_H → Option (Unit × xm_H)) (rec : Int32 → xm_H → Option (Unit × xm_H)) (c1 : Int32) (h : xm_H) : Option (Unit × xm_H) := (if c1 < (xm_i h 308 14) then (xb (f_X11_control c1 h) fun v2 h3 => (rec (c1 + (1 : Int32)) h3)) else (k24  h))
def f_X11_passTick_2 (N : Nat) (k24 : xm_H → Option (Unit × xm_H)) : Nat → Int32 → xm_H → Option (Unit × xm_H)
  | 0 => fun _ _ => none
  | n + 1 => fun c1 h => f_X11_passTick_2B N k24 (f_X11_passTick_2 N k24 n) c1 h
def f_X11_passTick_52B (N : Nat) (rec : Int32 → xm_H → Option (Unit × xm_H)) (c1 : Int32) (h : xm_H) : Option (Unit × xm_H) := (if c1 < (xm_i h 308 14) then (xb (f_X11_set c1 (2 : Int32) (0 : Int32) h) fun v2 h3 => (xb (f_X11_set c1 (3 : Int32) (100 : Int32) h3) fun v5 h6 => (rec (c1 + (1 : Int32)) h6))) else (some ((), h)))
def f_X11_passTick_52 (N : Nat) : Nat → Int32 → xm_H → Option (Unit × xm_H)
  | 0 => fun _ _ => none
  | n + 1 => fun c1 h => f_X11_passTick_52B N (f_X11_passTick_52 N n) c1 h
def f_X11_passTick (N : Nat) (h : xm_H) : Option (Unit × xm_H) := (f_X11_passTick_2 N (fun  (h1 : xm_H) => (xl (xm_si h1 303 0 ((xm_i h1 303 0) + (1 : Int32))) fun h2 => (if ¬ (xm_i h2 308 0) = 0 then (if ((xm_i h2 303 0) - (xm_i h2 303 0) / (xm_i h2 308 0) * (xm_i h2 308 0)) = 0 then (f_X11_passTick_52 N N (0 : Int32) h2) else (some ((), h2))) else none))) N (0 : Int32) h)
theorem tl_X11_passTick_2 {ρ : Nat} {δ : Nat} {N : Nat} {k24 : xm_H → Option (Unit × xm_H)} {Q : xm_O → xm_H → Prop} {w : Unit × xm_H}  (hQ : xS ρ δ w.2 → Q (xjv w.1) w.2) (hk24 : ∀  (h : xm_H), xS ρ δ h → k24  h = some w → xm_W (xm_Rn xX 3) xM_X11_passTick Q 24 [some (.ref 302), none] [] h) : ∀ (n : Nat) (c1 : Int32) (h : xm_H), xS ρ δ h → f_X11_passTick_2 N k24 n c1 h = some w → xm_W (xm_Rn xX 3) xM_X11_passTick Q 2 [some (.ref 302), some (.int c1)] [] h := by
  intro n
  induction n with
  | zero =>
    intro c1 h hS hf
    exact (xn_e hf).elim
  | succ n ih =>
    intro c1 h hS hf
    replace hf : f_X11_passTick_2B N k24 (f_X11_passTick_2 N k24 n) c1 h = some w := hf
    unfold f_X11_passTick_2B at hf
    refine xw_K (pc' := 3) (ls' := [some (.ref 302), some (.int c1)]) (st' := [.int c1]) rfl rfl trivial ?_
    refine xw_G (pc' := 4) (st' := [.ref 302, .int c1]) rfl rfl trivial ?_
    refine xw_gr rfl (xkf (xs_k hS rfl rfl : xm_k h 302 = (11, 0))) (xs_r hS rfl) ?_
    refine xw_G (pc' := 9) (st' := [.int (14 : Int32), .ref 308, .int c1]) rfl rfl trivial ?_
    refine xa_ld (t := 100) (τ := 0) (v := .int (xm_i h 308 14)) rfl rfl (xkf (xs_k hS rfl rfl : xm_k h 308 = (100, 72))) (xkn (xs_k hS rfl rfl : xm_k h 308 = (100, 72))) (by decide : xin (14 : Int32) 72) rfl ?_
    refine xj_ic_ge rfl hf (fun hc1 hf => ?_) (fun hc1 hf => ?_)
    · refine xw_G (pc' := 14) (st' := [.ref 302]) rfl rfl trivial ?_
      refine xw_G (pc' := 15) (st' := [.int c1, .ref 302]) rfl rfl trivial ?_
      refine xb_e hf (fun v2 h3 e4 hf => ?_)
      refine xw_V (v := none) rfl rfl (xkf (xs_k hS rfl rfl : xm_k h 302 = (11, 0))) (Nat.le_of_ble_eq_true rfl) (Nat.le_of_ble_eq_true rfl) (xm_Rn_le (Nat.le_of_ble_eq_true rfl) (t_X11_control  hS e4).1) ?_
      have hS := (t_X11_control  hS e4).2
      show xm_W _ _ _ 18 _ [] _
      refine xw_G (pc' := 21) (ls' := [some (.ref 302), some (.int (c1 + (1 : Int32)))]) (st' := []) rfl rfl (Nat.le_of_ble_eq_true rfl) ?_
      refine xw_G (pc' := 2) (st' := []) rfl rfl trivial ?_
      refine xw_M rfl rfl ?_
      exact ih _ _ hS hf
    · refine xw_M rfl rfl ?_
      exact hk24  _ hS hf
theorem tl_X11_passTick_52 {ρ : Nat} {δ : Nat} {N : Nat} {Q : xm_O → xm_H → Prop} {w : Unit × xm_H}  (hQ : xS ρ δ w.2 → Q (xjv w.1) w.2)  : ∀ (n : Nat) (c1 : Int32) (h : xm_H), xS ρ δ h → f_X11_passTick_52 N n c1 h = some w → xm_W (xm_Rn xX 3) xM_X11_passTick Q 52 [some (.ref 302), some (.int c1)] [] h := by
  intro n
  induction n with
  | zero =>
    intro c1 h hS hf
    exact (xn_e hf).elim
  | succ n ih =>
    intro c1 h hS hf
    replace hf : f_X11_passTick_52B N (f_X11_passTick_52 N n) c1 h = some w := hf
    unfold f_X11_passTick_52B at hf
    refine xw_K (pc' := 53) (ls' := [some (.ref 302), some (.int c1)]) (st' := [.int c1]) rfl rfl trivial ?_
    refine xw_G (pc' := 54) (st' := [.ref 302, .int c1]) rfl rfl trivial ?_
    refine xw_gr rfl (xkf (xs_k hS rfl rfl : xm_k h 302 = (11, 0))) (xs_r hS rfl) ?_
    refine xw_G (pc' := 59) (st' := [.int (14 : Int32), .ref 308, .int c1]) rfl rfl trivial ?_
    refine xa_ld (t := 100) (τ := 0) (v := .int (xm_i h 308 14)) rfl rfl (xkf (xs_k hS rfl rfl : xm_k h 308 = (100, 72))) (xkn (xs_k hS rfl rfl : xm_k h 308 = (100, 72))) (by decide : xin (14 : Int32) 72) rfl ?_
    refine xj_ic_ge rfl hf (fun hc1 hf => ?_) (fun hc1 hf => ?_)
    · refine xw_G (pc' := 64) (st' := [.ref 302]) rfl rfl trivial ?_
      refine xw_G (pc' := 65) (st' := [.int c1, .ref 302]) rfl rfl trivial ?_
      refine xw_G (pc' := 66) (st' := [.int (2 : Int32), .int c1, .ref 302]) rfl rfl trivial ?_
      refine xw_G (pc' := 67) (st' := [.int (0 : Int32), .int (2 : Int32), .int c1, .ref 302]) rfl rfl trivial ?_
      refine xb_e hf (fun v2 h3 e4 hf => ?_)
      refine xw_V (v := none) rfl rfl (xkf (xs_k hS rfl rfl : xm_k h 302 = (11, 0))) (Nat.le_of_ble_eq_true rfl) (Nat.le_of_ble_eq_true rfl) (xm_Rn_le (Nat.le_of_ble_eq_true rfl) (t_X11_set  hS e4).1) ?_
      have hS := (t_X11_set  hS e4).2
      show xm_W _ _ _ 70 _ [] _
      refine xw_G (pc' := 71) (st' := [.ref 302]) rfl rfl trivial ?_
      refine xw_G (pc' := 72) (st' := [.int c1, .ref 302]) rfl rfl trivial ?_
      refine xw_G (pc' := 73) (st' := [.int (3 : Int32), .int c1, .ref 302]) rfl rfl trivial ?_
      refine xw_G (pc' := 75) (st' := [.int (100 : Int32), .int (3 : Int32), .int c1, .ref 302]) rfl rfl trivial ?_
      refine xb_e hf (fun v5 h6 e7 hf => ?_)
      refine xw_V (v := none) rfl rfl (xkf (xs_k hS rfl rfl : xm_k h3 302 = (11, 0))) (Nat.le_of_ble_eq_true rfl) (Nat.le_of_ble_eq_true rfl) (xm_Rn_le (Nat.le_of_ble_eq_true rfl) (t_X11_set  hS e7).1) ?_
      have hS := (t_X11_set  hS e7).2
      show xm_W _ _ _ 78 _ [] _
      refine xw_G (pc' := 81) (ls' := [some (.ref 302), some (.int (c1 + (1 : Int32)))]) (st' := []) rfl rfl (Nat.le_of_ble_eq_true rfl) ?_
      refine xw_G (pc' := 52) (st' := []) rfl rfl trivial ?_
      refine xw_M rfl rfl ?_
      exact ih _ _ hS hf
    · exact xr_v (inj := xjv) rfl rfl hf hQ hS
theorem t_X11_passTick {N : Nat} {ρ : Nat} {δ : Nat} {h : xm_H} {w : Unit × xm_H}  (hS : xS ρ δ h) (hf : f_X11_passTick N h = some w) : xm_Rn xX 4 198 [.ref 302] h (xjv w.1) w.2 ∧ xS ρ δ w.2 := by
  refine xt_mk (φ := fun h => xS ρ δ h) (M := xM_X11_passTick) (ls := [some (.ref 302), none]) rfl (Nat.le_of_ble_eq_true rfl) rfl (fun Q hQ => ?_)
  unfold f_X11_passTick at hf
  refine xw_G (pc' := 1) (st' := [.int (0 : Int32)]) rfl rfl trivial ?_
  refine xw_G (pc' := 2) (ls' := [some (.ref 302), some (.int (0 : Int32))]) (st' := []) rfl rfl (Nat.le_of_ble_eq_true rfl) ?_
  refine xw_M rfl rfl ?_
  refine tl_X11_passTick_2  hQ (fun  h1 hS hf => ?_) _ _ _ hS hf
  refine xw_K (pc' := 25) (ls' := [some (.ref 302), none]) (st' := [.ref 302]) rfl rfl trivial ?_
  refine xw_gr rfl (xkf (xs_k hS rfl rfl : xm_k h1 302 = (11, 0))) (xs_r hS rfl) ?_
  refine xw_G (pc' := 29) (st' := [.int (0 : Int32), .ref 303]) rfl rfl trivial ?_
  refine xw_G (pc' := 30) (st' := [.int (0 : Int32), .ref 303, .int (0 : Int32), .ref 303]) rfl rfl ⟨rfl, rfl⟩ ?_
  refine xa_ld (t := 100) (τ := 0) (v := .int (xm_i h1 303 0)) rfl rfl (xkf (xs_k hS rfl rfl : xm_k h1 303 = (100, 2217))) (xkn (xs_k hS rfl rfl : xm_k h1 303 = (100, 2217))) (by decide : xin (0 : Int32) 2217) rfl ?_
  refine xw_G (pc' := 32) (st' := [.int (1 : Int32), .int (xm_i h1 303 0), .int (0 : Int32), .ref 303]) rfl rfl trivial ?_
  refine xw_G (pc' := 33) (st' := [.int ((xm_i h1 303 0) + (1 : Int32)), .int (0 : Int32), .ref 303]) rfl rfl trivial ?_
  refine xa_i rfl (xkf (xs_k hS rfl rfl : xm_k h1 303 = (100, 2217))) (xkn (xs_k hS rfl rfl : xm_k h1 303 = (100, 2217))) (by decide : xin (0 : Int32) 2217) (Nat.le_of_ble_eq_true rfl) hf (fun h2 e3 hf => ?_)
  have hS := xS_si hS e3
  refine xw_G (pc' := 35) (st' := [.ref 302]) rfl rfl trivial ?_
  refine xw_gr rfl (xkf (xs_k hS rfl rfl : xm_k h2 302 = (11, 0))) (xs_r hS rfl) ?_
  refine xw_G (pc' := 39) (st' := [.int (0 : Int32), .ref 303]) rfl rfl trivial ?_
  refine xa_ld (t := 100) (τ := 0) (v := .int (xm_i h2 303 0)) rfl rfl (xkf (xs_k hS rfl rfl : xm_k h2 303 = (100, 2217))) (xkn (xs_k hS rfl rfl : xm_k h2 303 = (100, 2217))) (by decide : xin (0 : Int32) 2217) rfl ?_
  refine xw_G (pc' := 41) (st' := [.ref 302, .int (xm_i h2 303 0)]) rfl rfl trivial ?_
  refine xw_gr rfl (xkf (xs_k hS rfl rfl : xm_k h2 302 = (11, 0))) (xs_r hS rfl) ?_
  refine xw_G (pc' := 45) (st' := [.int (0 : Int32), .ref 308, .int (xm_i h2 303 0)]) rfl rfl trivial ?_
  refine xa_ld (t := 100) (τ := 0) (v := .int (xm_i h2 308 0)) rfl rfl (xkf (xs_k hS rfl rfl : xm_k h2 308 = (100, 72))) (xkn (xs_k hS rfl rfl : xm_k h2 308 = (100, 72))) (by decide : xin (0 : Int32) 72) rfl ?_
  refine xg_e hf (fun hg4 hf => ?_)
  refine xw_G (pc' := 47) (st' := [.int ((xm_i h2 303 0) - (xm_i h2 303 0) / (xm_i h2 308 0) * (xm_i h2 308 0))]) rfl rfl hg4 ?_
  refine xj_if_ne rfl hf (fun hc5 hf => ?_) (fun hc5 hf => ?_)
  · refine xw_G (pc' := 51) (st' := [.int (0 : Int32)]) rfl rfl trivial ?_
    refine xw_G (pc' := 52) (ls' := [some (.ref 302), some (.int (0 : Int32))]) (st' := []) rfl rfl (Nat.le_of_ble_eq_true rfl) ?_
    refine xw_M rfl rfl ?_
    refine tl_X11_passTick_52  hQ  _ _ _ hS hf
  · exact xr_v (inj := xjv) rfl rfl hf hQ hS
def f_X11_goAhead_6B (N : Nat) (c1 : Int32) (c2 : Int32) (c3 : Int32) (rec : Int32 → Int32 → xm_H → Option (Int32 × xm_H)) (c4 : Int32) (c5 : Int32) (h : xm_H) : Option (Int32 × xm_H) := (if c5 < c3 then (xb (f_X11_auction N (c5 - c5 / (16 : Int32) * (16 : Int32)) c1 c2 h) fun v2 h3 => (xb (f_X11_takeOver N (c5 - c5 / (16 : Int32) * (16 : Int32)) h3) fun v5 h6 => (xb (f_X11_passTick N h6) fun v8 h9 => (rec (c4 + v5) (c5 + (1 : Int32)) h9)))) else (some (c4, h)))
def f_X11_goAhead_6 (N : Nat) (c1 : Int32) (c2 : Int32) (c3 : Int32) : Nat → Int32 → Int32 → xm_H → Option (Int32 × xm_H)
  | 0 => fun _ _ _ => none
  | n + 1 => fun c4 c5 h => f_X11_goAhead_6B N c1 c2 c3 (f_X11_goAhead_6 N c1 c2 c3 n) c4 c5 h
def f_X11_goAhead (N : Nat) (x1 : Int32) (x2 : Int32) (x3 : Int32) (h : xm_H) : Option (Int32 × xm_H) := (f_X11_goAhead_6 N x1 x2 x3 N (0 : Int32) (0 : Int32) h)
theorem tl_X11_goAhead_6 {ρ : Nat} {δ : Nat} {N : Nat} {c1 : Int32} {c2 : Int32} {c3 : Int32} {Q : xm_O → xm_H → Prop} {w : Int32 × xm_H}  (hQ : xS ρ δ w.2 → Q (xji w.1) w.2)  : ∀ (n : Nat) (c4 : Int32) (c5 : Int32) (h : xm_H), xS ρ δ h → f_X11_goAhead_6 N c1 c2 c3 n c4 c5 h = some w → xm_W (xm_Rn xX 4) xM_X11_goAhead Q 6 [some (.ref 302), some (.int c1), some (.int c2), some (.int c3), some (.int c4), some (.int c5)] [] h := by
  intro n
  induction n with
  | zero =>
    intro c4 c5 h hS hf
    exact (xn_e hf).elim
  | succ n ih =>
    intro c4 c5 h hS hf
    replace hf : f_X11_goAhead_6B N c1 c2 c3 (f_X11_goAhead_6 N c1 c2 c3 n) c4 c5 h = some w := hf
    unfold f_X11_goAhead_6B at hf
    refine xw_K (pc' := 8) (ls' := [some (.ref 302), some (.int c1), some (.int c2), some (.int c3), some (.int c4), some (.int c5)]) (st' := [.int c5]) rfl rfl trivial ?_
    refine xw_G (pc' := 9) (st' := [.int c3, .int c5]) rfl rfl trivial ?_
    refine xj_ic_ge rfl hf (fun hc1 hf => ?_) (fun hc1 hf => ?_)
    · refine xw_G (pc' := 13) (st' := [.ref 302]) rfl rfl trivial ?_
      refine xw_G (pc' := 15) (st' := [.int c5, .ref 302]) rfl rfl trivial ?_
      refine xw_G (pc' := 17) (st' := [.int (16 : Int32), .int c5, .ref 302]) rfl rfl trivial ?_
      refine xw_G (pc' := 18) (st' := [.int (c5 - c5 / (16 : Int32) * (16 : Int32)), .ref 302]) rfl rfl (by decide) ?_
      refine xw_G (pc' := 19) (st' := [.int c1, .int (c5 - c5 / (16 : Int32) * (16 : Int32)), .ref 302]) rfl rfl trivial ?_
      refine xw_G (pc' := 20) (st' := [.int c2, .int c1, .int (c5 - c5 / (16 : Int32) * (16 : Int32)), .ref 302]) rfl rfl trivial ?_
      refine xb_e hf (fun v2 h3 e4 hf => ?_)
      refine xw_V (v := none) rfl rfl (xkf (xs_k hS rfl rfl : xm_k h 302 = (11, 0))) (Nat.le_of_ble_eq_true rfl) (Nat.le_of_ble_eq_true rfl) (xm_Rn_le (Nat.le_of_ble_eq_true rfl) (t_X11_auction  hS e4).1) ?_
      have hS := (t_X11_auction  hS e4).2
      show xm_W _ _ _ 23 _ [] _
      refine xw_G (pc' := 25) (st' := [.int c4]) rfl rfl trivial ?_
      refine xw_G (pc' := 26) (st' := [.ref 302, .int c4]) rfl rfl trivial ?_
      refine xw_G (pc' := 28) (st' := [.int c5, .ref 302, .int c4]) rfl rfl trivial ?_
      refine xw_G (pc' := 30) (st' := [.int (16 : Int32), .int c5, .ref 302, .int c4]) rfl rfl trivial ?_
      refine xw_G (pc' := 31) (st' := [.int (c5 - c5 / (16 : Int32) * (16 : Int32)), .ref 302, .int c4]) rfl rfl (by decide) ?_
      refine xb_e hf (fun v5 h6 e7 hf => ?_)
      refine xw_V (v := some (.int v5)) rfl rfl (xkf (xs_k hS rfl rfl : xm_k h3 302 = (11, 0))) (Nat.le_of_ble_eq_true rfl) (Nat.le_of_ble_eq_true rfl) (xm_Rn_le (Nat.le_of_ble_eq_true rfl) (t_X11_takeOver  hS e7).1) ?_
      have hS := (t_X11_takeOver  hS e7).2
      show xm_W _ _ _ 34 _ [.int v5, .int c4] _
      refine xw_G (pc' := 35) (st' := [.int (c4 + v5)]) rfl rfl trivial ?_
      refine xw_G (pc' := 37) (ls' := [some (.ref 302), some (.int c1), some (.int c2), some (.int c3), some (.int (c4 + v5)), some (.int c5)]) (st' := []) rfl rfl (Nat.le_of_ble_eq_true rfl) ?_
      refine xw_G (pc' := 38) (st' := [.ref 302]) rfl rfl trivial ?_
      refine xb_e hf (fun v8 h9 e10 hf => ?_)
      refine xw_V (v := none) rfl rfl (xkf (xs_k hS rfl rfl : xm_k h6 302 = (11, 0))) (Nat.le_of_ble_eq_true rfl) (Nat.le_of_ble_eq_true rfl) (xm_Rn_le (Nat.le_of_ble_eq_true rfl) (t_X11_passTick  hS e10).1) ?_
      have hS := (t_X11_passTick  hS e10).2
      show xm_W _ _ _ 41 _ [] _
      refine xw_G (pc' := 44) (ls' := [some (.ref 302), some (.int c1), some (.int c2), some (.int c3), some (.int (c4 + v5)), some (.int (c5 + (1 : Int32)))]) (st' := []) rfl rfl (Nat.le_of_ble_eq_true rfl) ?_
      refine xw_G (pc' := 6) (st' := []) rfl rfl trivial ?_
      refine xw_M rfl rfl ?_
      exact ih _ _ _ hS hf
    · refine xw_G (pc' := 49) (st' := [.int c4]) rfl rfl trivial ?_
      exact xr_i (inj := xji) rfl rfl rfl rfl hf hQ hS
theorem t_X11_goAhead {N : Nat} {ρ : Nat} {δ : Nat} {x1 : Int32} {x2 : Int32} {x3 : Int32} {h : xm_H} {w : Int32 × xm_H}  (hS : xS ρ δ h) (hf : f_X11_goAhead N x1 x2 x3 h = some w) : xm_Rn xX 5 208 [.ref 302, .int x1, .int x2, .int x3] h (xji w.1) w.2 ∧ xS ρ δ w.2 := by
  refine xt_mk (φ := fun h => xS ρ δ h) (M := xM_X11_goAhead) (ls := [some (.ref 302), some (.int x1), some (.int x2), some (.int x3), none, none]) rfl (Nat.le_of_ble_eq_true rfl) rfl (fun Q hQ => ?_)
  unfold f_X11_goAhead at hf
  refine xw_G (pc' := 1) (st' := [.int (0 : Int32)]) rfl rfl trivial ?_
  refine xw_G (pc' := 3) (ls' := [some (.ref 302), some (.int x1), some (.int x2), some (.int x3), some (.int (0 : Int32)), none]) (st' := []) rfl rfl (Nat.le_of_ble_eq_true rfl) ?_
  refine xw_G (pc' := 4) (st' := [.int (0 : Int32)]) rfl rfl trivial ?_
  refine xw_G (pc' := 6) (ls' := [some (.ref 302), some (.int x1), some (.int x2), some (.int x3), some (.int (0 : Int32)), some (.int (0 : Int32))]) (st' := []) rfl rfl (Nat.le_of_ble_eq_true rfl) ?_
  refine xw_M rfl rfl ?_
  refine tl_X11_goAhead_6  hQ  _ _ _ _ hS hf
def f_X11_revenueAfter (N : Nat) (x1 : Int32) (x2 : Int32) (x3 : Int32) (h : xm_H) : Option (Int32 × xm_H) := (xb (f_X11_isTag x1 h) fun v1 h2 => (xb (f_X11_isAhead x2 x3 h2) fun v4 h5 => (xb (f_X11_good_ v1 v4 h5) fun v7 h8 => (if v7 = 0 then (some ((0 : Int32), h8)) else (xb (f_X11_copy N 303 304 h8) fun v11 h12 => (xb (f_X11_goAhead N x1 x2 x3 h12) fun v14 h15 => (xb (f_X11_copy N 304 303 h15) fun v17 h18 => (some (v14, h18)))))))))
theorem t_X11_revenueAfter {N : Nat} {ρ : Nat} {δ : Nat} {x1 : Int32} {x2 : Int32} {x3 : Int32} {h : xm_H} {w : Int32 × xm_H}  (hS : xS ρ δ h) (hf : f_X11_revenueAfter N x1 x2 x3 h = some w) : xm_Rn xX 6 210 [.ref 302, .int x1, .int x2, .int x3] h (xji w.1) w.2 ∧ xS ρ δ w.2 := by
  refine xt_mk (φ := fun h => xS ρ δ h) (M := xM_X11_revenueAfter) (ls := [some (.ref 302), some (.int x1), some (.int x2), some (.int x3), none]) rfl (Nat.le_of_ble_eq_true rfl) rfl (fun Q hQ => ?_)
  unfold f_X11_revenueAfter at hf
  refine xw_G (pc' := 1) (st' := [.ref 302]) rfl rfl trivial ?_
  refine xw_G (pc' := 2) (st' := [.ref 302, .ref 302]) rfl rfl trivial ?_
  refine xw_G (pc' := 3) (st' := [.int x1, .ref 302, .ref 302]) rfl rfl trivial ?_
  refine xb_e hf (fun v1 h2 e3 hf => ?_)
  refine xw_V (v := some (.int v1)) rfl rfl (xkf (xs_k hS rfl rfl : xm_k h 302 = (11, 0))) (Nat.le_of_ble_eq_true rfl) (Nat.le_of_ble_eq_true rfl) (xm_Rn_le (Nat.le_of_ble_eq_true rfl) (t_X11_isTag  hS e3).1) ?_
  have hS := (t_X11_isTag  hS e3).2
  show xm_W _ _ _ 6 _ [.int v1, .ref 302] _
  refine xw_G (pc' := 7) (st' := [.ref 302, .int v1, .ref 302]) rfl rfl trivial ?_
  refine xw_G (pc' := 8) (st' := [.int x2, .ref 302, .int v1, .ref 302]) rfl rfl trivial ?_
  refine xw_G (pc' := 9) (st' := [.int x3, .int x2, .ref 302, .int v1, .ref 302]) rfl rfl trivial ?_
  refine xb_e hf (fun v4 h5 e6 hf => ?_)
  refine xw_V (v := some (.int v4)) rfl rfl (xkf (xs_k hS rfl rfl : xm_k h2 302 = (11, 0))) (Nat.le_of_ble_eq_true rfl) (Nat.le_of_ble_eq_true rfl) (xm_Rn_le (Nat.le_of_ble_eq_true rfl) (t_X11_isAhead  hS e6).1) ?_
  have hS := (t_X11_isAhead  hS e6).2
  show xm_W _ _ _ 12 _ [.int v4, .int v1, .ref 302] _
  refine xb_e hf (fun v7 h8 e9 hf => ?_)
  refine xw_V (v := some (.int v7)) rfl rfl (xkf (xs_k hS rfl rfl : xm_k h5 302 = (11, 0))) (Nat.le_of_ble_eq_true rfl) (Nat.le_of_ble_eq_true rfl) (xm_Rn_le (Nat.le_of_ble_eq_true rfl) (t_X11_good_  hS e9).1) ?_
  have hS := (t_X11_good_  hS e9).2
  show xm_W _ _ _ 15 _ [.int v7] _
  refine xj_if_ne rfl hf (fun hc10 hf => ?_) (fun hc10 hf => ?_)
  · refine xw_G (pc' := 19) (st' := [.int (0 : Int32)]) rfl rfl trivial ?_
    exact xr_i (inj := xji) rfl rfl rfl rfl hf hQ hS
  · refine xw_G (pc' := 21) (st' := [.ref 302]) rfl rfl trivial ?_
    refine xw_gr rfl (xkf (xs_k hS rfl rfl : xm_k h8 302 = (11, 0))) (xs_r hS rfl) ?_
    refine xw_G (pc' := 25) (st' := [.ref 302, .ref 303]) rfl rfl trivial ?_
    refine xw_gr rfl (xkf (xs_k hS rfl rfl : xm_k h8 302 = (11, 0))) (xs_r hS rfl) ?_
    refine xb_e hf (fun v11 h12 e13 hf => ?_)
    refine xw_S (v := none) rfl (Nat.le_of_ble_eq_true rfl) (Nat.le_of_ble_eq_true rfl) (xm_Rn_le (Nat.le_of_ble_eq_true rfl) (t_X11_copy  hS e13).1) ?_
    have hS := (t_X11_copy  hS e13).2
    show xm_W _ _ _ 31 _ [] _
    refine xw_G (pc' := 32) (st' := [.ref 302]) rfl rfl trivial ?_
    refine xw_G (pc' := 33) (st' := [.int x1, .ref 302]) rfl rfl trivial ?_
    refine xw_G (pc' := 34) (st' := [.int x2, .int x1, .ref 302]) rfl rfl trivial ?_
    refine xw_G (pc' := 35) (st' := [.int x3, .int x2, .int x1, .ref 302]) rfl rfl trivial ?_
    refine xb_e hf (fun v14 h15 e16 hf => ?_)
    refine xw_V (v := some (.int v14)) rfl rfl (xkf (xs_k hS rfl rfl : xm_k h12 302 = (11, 0))) (Nat.le_of_ble_eq_true rfl) (Nat.le_of_ble_eq_true rfl) (xm_Rn_le (Nat.le_of_ble_eq_true rfl) (t_X11_goAhead  hS e16).1) ?_
    have hS := (t_X11_goAhead  hS e16).2
    show xm_W _ _ _ 38 _ [.int v14] _
    refine xw_G (pc' := 40) (ls' := [some (.ref 302), some (.int x1), some (.int x2), some (.int x3), some (.int v14)]) (st' := []) rfl rfl (Nat.le_of_ble_eq_true rfl) ?_
    refine xw_G (pc' := 41) (st' := [.ref 302]) rfl rfl trivial ?_
    refine xw_gr rfl (xkf (xs_k hS rfl rfl : xm_k h15 302 = (11, 0))) (xs_r hS rfl) ?_
    refine xw_G (pc' := 45) (st' := [.ref 302, .ref 304]) rfl rfl trivial ?_
    refine xw_gr rfl (xkf (xs_k hS rfl rfl : xm_k h15 302 = (11, 0))) (xs_r hS rfl) ?_
    refine xb_e hf (fun v17 h18 e19 hf => ?_)
    refine xw_S (v := none) rfl (Nat.le_of_ble_eq_true rfl) (Nat.le_of_ble_eq_true rfl) (xm_Rn_le (Nat.le_of_ble_eq_true rfl) (t_X11_copy  hS e19).1) ?_
    have hS := (t_X11_copy  hS e19).2
    show xm_W _ _ _ 51 _ [] _
    refine xw_G (pc' := 53) (st' := [.int v14]) rfl rfl trivial ?_
    exact xr_i (inj := xji) rfl rfl rfl rfl hf hQ hS
def f_X10_multiplierAfter (N : Nat) (ρ : Nat) (x1 : Int32) (x2 : Int32) (x3 : Int32) (x4 : Int32) (h : xm_H) : Option ((Int32 ⊕ Nat × Nat) × xm_H) := (xe (f_X10_requireCampaign ρ x1 h) (fun v1 h2 => (xe (f_X10_requireTag ρ x2 h2) (fun v4 h5 => (xe (f_X10_requireSlots ρ x3 h5) (fun v7 h8 => (xe (f_X10_requireRange x4 (1 : Int32) (60 : Int32) h8) (fun v10 h11 => (xb (f_X7_copy 220 201 h11) fun v13 h14 => (xb (f_X10_tryAhead N ρ x2 x3 x4 h14) fun v16 h17 => (if xin x1 8 then (xb (f_X7_copy 201 220 h17) fun v20 h21 => (some (.inl (xm_i h17 207 (Int32.toNatClampNeg x1)), h21))) else none)))) (fun q23 h24 => (some (.inr q23, h24))))) (fun q26 h27 => (some (.inr q26, h27))))) (fun q29 h30 => (some (.inr q29, h30))))) (fun q32 h33 => (some (.inr q32, h33))))
theorem t_X10_multiplierAfter {N : Nat} {ρ : Nat} {δ : Nat} {x1 : Int32} {x2 : Int32} {x3 : Int32} {x4 : Int32} {h : xm_H} {w : (Int32 ⊕ Nat × Nat) × xm_H}  (hS : xS ρ δ h) (hf : f_X10_multiplierAfter N ρ x1 x2 x3 x4 h = some w) : xm_Rn xX 6 96 [.ref 160, .int x1, .int x2, .int x3, .int x4] h (xti w.1) w.2 ∧ xS ρ δ w.2 := by
  refine xt_mk (φ := fun h => xS ρ δ h) (M := xM_X10_multiplierAfter) (ls := [some (.ref 160), some (.int x1), some (.int x2), some (.int x3), some (.int x4), none]) rfl (Nat.le_of_ble_eq_true rfl) rfl (fun Q hQ => ?_)
  unfold f_X10_multiplierAfter at hf
  refine xw_G (pc' := 1) (st' := [.ref 160]) rfl rfl trivial ?_
  refine xw_G (pc' := 2) (st' := [.int x1, .ref 160]) rfl rfl trivial ?_
  refine xe_e hf (fun v1 h2 e3 hf => ?_) (fun q32 h33 e3 hf => ?_)
  · refine xw_V (v := none) rfl rfl (xkf (xs_k hS rfl rfl : xm_k h 160 = (0, 0))) (Nat.le_of_ble_eq_true rfl) (Nat.le_of_ble_eq_true rfl) (xm_Rn_le (Nat.le_of_ble_eq_true rfl) (t_X10_requireCampaign  hS e3).1) ?_
    have hS := (t_X10_requireCampaign  hS e3).2
    show xm_W _ _ _ 5 _ [] _
    refine xw_G (pc' := 6) (st' := [.ref 160]) rfl rfl trivial ?_
    refine xw_G (pc' := 7) (st' := [.int x2, .ref 160]) rfl rfl trivial ?_
    refine xe_e hf (fun v4 h5 e6 hf => ?_) (fun q29 h30 e6 hf => ?_)
    · refine xw_V (v := none) rfl rfl (xkf (xs_k hS rfl rfl : xm_k h2 160 = (0, 0))) (Nat.le_of_ble_eq_true rfl) (Nat.le_of_ble_eq_true rfl) (xm_Rn_le (Nat.le_of_ble_eq_true rfl) (t_X10_requireTag  hS e6).1) ?_
      have hS := (t_X10_requireTag  hS e6).2
      show xm_W _ _ _ 10 _ [] _
      refine xw_G (pc' := 11) (st' := [.ref 160]) rfl rfl trivial ?_
      refine xw_G (pc' := 12) (st' := [.int x3, .ref 160]) rfl rfl trivial ?_
      refine xe_e hf (fun v7 h8 e9 hf => ?_) (fun q26 h27 e9 hf => ?_)
      · refine xw_V (v := none) rfl rfl (xkf (xs_k hS rfl rfl : xm_k h5 160 = (0, 0))) (Nat.le_of_ble_eq_true rfl) (Nat.le_of_ble_eq_true rfl) (xm_Rn_le (Nat.le_of_ble_eq_true rfl) (t_X10_requireSlots  hS e9).1) ?_
        have hS := (t_X10_requireSlots  hS e9).2
        show xm_W _ _ _ 15 _ [] _
        refine xw_G (pc' := 17) (st' := [.int x4]) rfl rfl trivial ?_
        refine xw_G (pc' := 18) (st' := [.int (1 : Int32), .int x4]) rfl rfl trivial ?_
        refine xw_G (pc' := 20) (st' := [.int (60 : Int32), .int (1 : Int32), .int x4]) rfl rfl trivial ?_
        refine xe_e hf (fun v10 h11 e12 hf => ?_) (fun q23 h24 e12 hf => ?_)
        · refine xw_S (v := none) rfl (Nat.le_of_ble_eq_true rfl) (Nat.le_of_ble_eq_true rfl) (xm_Rn_le (Nat.le_of_ble_eq_true rfl) (t_X10_requireRange  hS e12).1) ?_
          have hS := (t_X10_requireRange  hS e12).2
          show xm_W _ _ _ 23 _ [] _
          refine xw_G (pc' := 24) (st' := [.ref 160]) rfl rfl trivial ?_
          refine xw_gr rfl (xkf (xs_k hS rfl rfl : xm_k h11 160 = (0, 0))) (xs_r hS rfl) ?_
          refine xw_G (pc' := 28) (st' := [.ref 160, .ref 220]) rfl rfl trivial ?_
          refine xw_gr rfl (xkf (xs_k hS rfl rfl : xm_k h11 160 = (0, 0))) (xs_r hS rfl) ?_
          refine xw_gr rfl (xkf (xs_k hS rfl rfl : xm_k h11 182 = (3, 0))) (xs_r hS rfl) ?_
          refine xb_e hf (fun v13 h14 e15 hf => ?_)
          refine xw_V (v := none) rfl rfl (xkf (xs_k hS rfl rfl : xm_k h11 220 = (8, 0))) (Nat.le_of_ble_eq_true rfl) (Nat.le_of_ble_eq_true rfl) (xm_Rn_le (Nat.le_of_ble_eq_true rfl) (t_X7_copy (Or.inr (Or.inl rfl)) (Or.inl rfl) hS e15).1) ?_
          have hS := (t_X7_copy (Or.inr (Or.inl rfl)) (Or.inl rfl) hS e15).2
          show xm_W _ _ _ 37 _ [] _
          refine xw_G (pc' := 38) (st' := [.ref 160]) rfl rfl trivial ?_
          refine xw_G (pc' := 39) (st' := [.int x2, .ref 160]) rfl rfl trivial ?_
          refine xw_G (pc' := 40) (st' := [.int x3, .int x2, .ref 160]) rfl rfl trivial ?_
          refine xw_G (pc' := 42) (st' := [.int x4, .int x3, .int x2, .ref 160]) rfl rfl trivial ?_
          refine xb_e hf (fun v16 h17 e18 hf => ?_)
          refine xw_V (v := none) rfl rfl (xkf (xs_k hS rfl rfl : xm_k h14 160 = (0, 0))) (Nat.le_of_ble_eq_true rfl) (Nat.le_of_ble_eq_true rfl) (xm_Rn_le (Nat.le_of_ble_eq_true rfl) (t_X10_tryAhead  hS e18).1) ?_
          have hS := (t_X10_tryAhead  hS e18).2
          show xm_W _ _ _ 45 _ [] _
          refine xw_G (pc' := 46) (st' := [.ref 160]) rfl rfl trivial ?_
          refine xw_gr rfl (xkf (xs_k hS rfl rfl : xm_k h17 160 = (0, 0))) (xs_r hS rfl) ?_
          refine xw_gr rfl (xkf (xs_k hS rfl rfl : xm_k h17 182 = (3, 0))) (xs_r hS rfl) ?_
          refine xw_gr rfl (xkf (xs_k hS rfl rfl : xm_k h17 201 = (8, 0))) (xs_r hS rfl) ?_
          refine xw_G (pc' := 56) (st' := [.int x1, .ref 207]) rfl rfl trivial ?_
          refine xg_e hf (fun hg19 hf => ?_)
          refine xa_ld (t := 100) (τ := 0) (v := .int (xm_i h17 207 (Int32.toNatClampNeg x1))) rfl rfl (xkf (xs_k hS rfl rfl : xm_k h17 207 = (100, 8))) (xkn (xs_k hS rfl rfl : xm_k h17 207 = (100, 8))) hg19 rfl ?_
          refine xw_G (pc' := 59) (ls' := [some (.ref 160), some (.int x1), some (.int x2), some (.int x3), some (.int x4), some (.int (xm_i h17 207 (Int32.toNatClampNeg x1)))]) (st' := []) rfl rfl (Nat.le_of_ble_eq_true rfl) ?_
          refine xw_G (pc' := 60) (st' := [.ref 160]) rfl rfl trivial ?_
          refine xw_gr rfl (xkf (xs_k hS rfl rfl : xm_k h17 160 = (0, 0))) (xs_r hS rfl) ?_
          refine xw_gr rfl (xkf (xs_k hS rfl rfl : xm_k h17 182 = (3, 0))) (xs_r hS rfl) ?_
          refine xw_G (pc' := 67) (st' := [.ref 160, .ref 201]) rfl rfl trivial ?_
          refine xw_gr rfl (xkf (xs_k hS rfl rfl : xm_k h17 160 = (0, 0))) (xs_r hS rfl) ?_
          refine xb_e hf (fun v20 h21 e22 hf => ?_)
          refine xw_V (v := none) rfl rfl (xkf (xs_k hS rfl rfl : xm_k h17 201 = (8, 0))) (Nat.le_of_ble_eq_true rfl) (Nat.le_of_ble_eq_true rfl) (xm_Rn_le (Nat.le_of_ble_eq_true rfl) (t_X7_copy (Or.inl rfl) (Or.inr (Or.inl rfl)) hS e22).1) ?_
          have hS := (t_X7_copy (Or.inl rfl) (Or.inr (Or.inl rfl)) hS e22).2
          show xm_W _ _ _ 73 _ [] _
          refine xw_G (pc' := 75) (st' := [.int (xm_i h17 207 (Int32.toNatClampNeg x1))]) rfl rfl trivial ?_
          exact xr_i (inj := xti) rfl rfl rfl rfl hf hQ hS
        · refine xw_SX (x := q23) rfl (Nat.le_of_ble_eq_true rfl) (Nat.le_of_ble_eq_true rfl) (xm_Rn_le (Nat.le_of_ble_eq_true rfl) (t_X10_requireRange  hS e12).1) rfl ?_
          have hS := (t_X10_requireRange  hS e12).2
          exact xr_x (inj := xti) rfl hf hQ hS
      · refine xw_VX (x := q26) rfl rfl (xkf (xs_k hS rfl rfl : xm_k h5 160 = (0, 0))) (Nat.le_of_ble_eq_true rfl) (Nat.le_of_ble_eq_true rfl) (xm_Rn_le (Nat.le_of_ble_eq_true rfl) (t_X10_requireSlots  hS e9).1) rfl ?_
        have hS := (t_X10_requireSlots  hS e9).2
        exact xr_x (inj := xti) rfl hf hQ hS
    · refine xw_VX (x := q29) rfl rfl (xkf (xs_k hS rfl rfl : xm_k h2 160 = (0, 0))) (Nat.le_of_ble_eq_true rfl) (Nat.le_of_ble_eq_true rfl) (xm_Rn_le (Nat.le_of_ble_eq_true rfl) (t_X10_requireTag  hS e6).1) rfl ?_
      have hS := (t_X10_requireTag  hS e6).2
      exact xr_x (inj := xti) rfl hf hQ hS
  · refine xw_VX (x := q32) rfl rfl (xkf (xs_k hS rfl rfl : xm_k h 160 = (0, 0))) (Nat.le_of_ble_eq_true rfl) (Nat.le_of_ble_eq_true rfl) (xm_Rn_le (Nat.le_of_ble_eq_true rfl) (t_X10_requireCampaign  hS e3).1) rfl ?_
    have hS := (t_X10_requireCampaign  hS e3).2
    exact xr_x (inj := xti) rfl hf hQ hS
def f_L_multiplierAfter (N : Nat) (ρ : Nat) (x1 : Int32) (x2 : Int32) (x3 : Int32) (x4 : Int32) (h : xm_H) : Option (Int32 × xm_H) := (xe (f_X10_multiplierAfter N ρ x1 x2 x3 x4 h) (fun v1 h2 => (xl (xm_sl h2 316 0 (Int32.toInt64 v1)) fun h4 => (some ((0 : Int32), h4)))) (fun q6 h7 => (if (q6).1 = 14 then (some ((1 : Int32), h7)) else (if (q6).1 = 15 then (some ((2 : Int32), h7)) else none))))
theorem t_L_multiplierAfter {N : Nat} {ρ : Nat} {δ : Nat} {x1 : Int32} {x2 : Int32} {x3 : Int32} {x4 : Int32} {h : xm_H} {w : Int32 × xm_H}  (hS : xS ρ δ h) (hf : f_L_multiplierAfter N ρ x1 x2 x3 x4 h = some w) : xm_Rn xX 7 343 [.ref 160, .int x1, .int x2, .int x3, .int x4, .ref 316] h (xji w.1) w.2 ∧ xS ρ δ w.2 := by
  refine xt_mk (φ := fun h => xS ρ δ h) (M := xM_L_multiplierAfter) (ls := [some (.ref 160), some (.int x1), some (.int x2), some (.int x3), some (.int x4), some (.ref 316), none]) rfl (Nat.le_of_ble_eq_true rfl) rfl (fun Q hQ => ?_)
  unfold f_L_multiplierAfter at hf
  refine xw_G (pc' := 2) (st' := [.ref 316]) rfl rfl trivial ?_
  refine xw_G (pc' := 3) (st' := [.int (0 : Int32), .ref 316]) rfl rfl trivial ?_
  refine xw_G (pc' := 4) (st' := [.ref 160, .int (0 : Int32), .ref 316]) rfl rfl trivial ?_
  refine xw_G (pc' := 5) (st' := [.int x1, .ref 160, .int (0 : Int32), .ref 316]) rfl rfl trivial ?_
  refine xw_G (pc' := 6) (st' := [.int x2, .int x1, .ref 160, .int (0 : Int32), .ref 316]) rfl rfl trivial ?_
  refine xw_G (pc' := 7) (st' := [.int x3, .int x2, .int x1, .ref 160, .int (0 : Int32), .ref 316]) rfl rfl trivial ?_
  refine xw_G (pc' := 9) (st' := [.int x4, .int x3, .int x2, .int x1, .ref 160, .int (0 : Int32), .ref 316]) rfl rfl trivial ?_
  refine xe_e hf (fun v1 h2 e3 hf => ?_) (fun q6 h7 e3 hf => ?_)
  · refine xw_V (v := some (.int v1)) rfl rfl (xkf (xs_k hS rfl rfl : xm_k h 160 = (0, 0))) (Nat.le_of_ble_eq_true rfl) (Nat.le_of_ble_eq_true rfl) (xm_Rn_le (Nat.le_of_ble_eq_true rfl) (t_X10_multiplierAfter  hS e3).1) ?_
    have hS := (t_X10_multiplierAfter  hS e3).2
    show xm_W _ _ _ 12 _ [.int v1, .int (0 : Int32), .ref 316] _
    refine xw_G (pc' := 13) (st' := [.long (Int32.toInt64 v1), .int (0 : Int32), .ref 316]) rfl rfl trivial ?_
    refine xa_l rfl (xkf (xs_k hS rfl rfl : xm_k h2 316 = (104, 1))) (xkn (xs_k hS rfl rfl : xm_k h2 316 = (104, 1))) (by decide : xin (0 : Int32) 1) (Nat.le_of_ble_eq_true rfl) hf (fun h4 e5 hf => ?_)
    have hS := xS_sl hS e5
    refine xw_G (pc' := 25) (st' := []) rfl rfl trivial ?_
    refine xw_G (pc' := 26) (st' := [.int (0 : Int32)]) rfl rfl trivial ?_
    exact xr_i (inj := xji) rfl rfl rfl rfl hf hQ hS
  · by_cases hc8 : (q6).1 = 14
    · rw [if_pos hc8] at hf
      refine xw_VH (x := q6) (p := 17) rfl rfl (xkf (xs_k hS rfl rfl : xm_k h 160 = (0, 0))) (Nat.le_of_ble_eq_true rfl) (Nat.le_of_ble_eq_true rfl) (xm_Rn_le (Nat.le_of_ble_eq_true rfl) (t_X10_multiplierAfter  hS e3).1) (by rw [hc8]; rfl) ?_
      have hS := (t_X10_multiplierAfter  hS e3).2
      refine xw_G (pc' := 19) (ls' := [some (.ref 160), some (.int x1), some (.int x2), some (.int x3), some (.int x4), some (.ref 316), some (.ref ((q6).2))]) (st' := []) rfl rfl (Nat.le_of_ble_eq_true rfl) ?_
      refine xw_G (pc' := 20) (st' := [.int (1 : Int32)]) rfl rfl trivial ?_
      exact xr_i (inj := xji) rfl rfl rfl rfl hf hQ hS
    · rw [if_neg hc8] at hf
      by_cases hc8 : (q6).1 = 15
      · rw [if_pos hc8] at hf
        refine xw_VH (x := q6) (p := 21) rfl rfl (xkf (xs_k hS rfl rfl : xm_k h 160 = (0, 0))) (Nat.le_of_ble_eq_true rfl) (Nat.le_of_ble_eq_true rfl) (xm_Rn_le (Nat.le_of_ble_eq_true rfl) (t_X10_multiplierAfter  hS e3).1) (by rw [hc8]; rfl) ?_
        have hS := (t_X10_multiplierAfter  hS e3).2
        refine xw_G (pc' := 23) (ls' := [some (.ref 160), some (.int x1), some (.int x2), some (.int x3), some (.int x4), some (.ref 316), some (.ref ((q6).2))]) (st' := []) rfl rfl (Nat.le_of_ble_eq_true rfl) ?_
        refine xw_G (pc' := 24) (st' := [.int (2 : Int32)]) rfl rfl trivial ?_
        exact xr_i (inj := xji) rfl rfl rfl rfl hf hQ hS
      · rw [if_neg hc8] at hf
        exact (xn_e hf).elim
def f_X11_multiplierAfter (N : Nat) (x1 : Int32) (x2 : Int32) (x3 : Int32) (x4 : Int32) (h : xm_H) : Option (Int32 × xm_H) := (xb (f_X11_isCampaign x1 h) fun v1 h2 => (if v1 = 0 then (xb (f_X11_isAhead x3 x4 h2) fun v5 h6 => (xb (f_X11_good_ (0 : Int32) v5 h6) fun v8 h9 => (if v8 = 0 then (some ((0 : Int32), h9)) else (xb (f_X11_copy N 303 304 h9) fun v12 h13 => (xb (f_X11_goAhead N x2 x3 x4 h13) fun v15 h16 => (xb (f_X11_of x1 (3 : Int32) h16) fun v18 h19 => (xb (f_X11_copy N 304 303 h19) fun v21 h22 => (some (v18, h22))))))))) else (xb (f_X11_isTag x2 h2) fun v24 h25 => (if v24 = 0 then (xb (f_X11_isAhead x3 x4 h25) fun v28 h29 => (xb (f_X11_good_ (0 : Int32) v28 h29) fun v31 h32 => (if v31 = 0 then (some ((0 : Int32), h32)) else (xb (f_X11_copy N 303 304 h32) fun v35 h36 => (xb (f_X11_goAhead N x2 x3 x4 h36) fun v38 h39 => (xb (f_X11_of x1 (3 : Int32) h39) fun v41 h42 => (xb (f_X11_copy N 304 303 h42) fun v44 h45 => (some (v41, h45))))))))) else (xb (f_X11_isAhead x3 x4 h25) fun v47 h48 => (xb (f_X11_good_ (1 : Int32) v47 h48) fun v50 h51 => (if v50 = 0 then (some ((0 : Int32), h51)) else (xb (f_X11_copy N 303 304 h51) fun v54 h55 => (xb (f_X11_goAhead N x2 x3 x4 h55) fun v57 h58 => (xb (f_X11_of x1 (3 : Int32) h58) fun v60 h61 => (xb (f_X11_copy N 304 303 h61) fun v63 h64 => (some (v60, h64)))))))))))))
theorem t_X11_multiplierAfter {N : Nat} {ρ : Nat} {δ : Nat} {x1 : Int32} {x2 : Int32} {x3 : Int32} {x4 : Int32} {h : xm_H} {w : Int32 × xm_H}  (hS : xS ρ δ h) (hf : f_X11_multiplierAfter N x1 x2 x3 x4 h = some w) : xm_Rn xX 6 211 [.ref 302, .int x1, .int x2, .int x3, .int x4] h (xji w.1) w.2 ∧ xS ρ δ w.2 := by
  refine xt_mk (φ := fun h => xS ρ δ h) (M := xM_X11_multiplierAfter) (ls := [some (.ref 302), some (.int x1), some (.int x2), some (.int x3), some (.int x4), none, none]) rfl (Nat.le_of_ble_eq_true rfl) rfl (fun Q hQ => ?_)
  unfold f_X11_multiplierAfter at hf
  refine xw_G (pc' := 1) (st' := [.ref 302]) rfl rfl trivial ?_
  refine xw_G (pc' := 2) (st' := [.ref 302, .ref 302]) rfl rfl trivial ?_
  refine xw_G (pc' := 3) (st' := [.int x1, .ref 302, .ref 302]) rfl rfl trivial ?_
  refine xb_e hf (fun v1 h2 e3 hf => ?_)
  refine xw_V (v := some (.int v1)) rfl rfl (xkf (xs_k hS rfl rfl : xm_k h 302 = (11, 0))) (Nat.le_of_ble_eq_true rfl) (Nat.le_of_ble_eq_true rfl) (xm_Rn_le (Nat.le_of_ble_eq_true rfl) (t_X11_isCampaign  hS e3).1) ?_
  have hS := (t_X11_isCampaign  hS e3).2
  show xm_W _ _ _ 6 _ [.int v1, .ref 302] _
  refine xj_if_eq rfl hf (fun hc4 hf => ?_) (fun hc4 hf => ?_)
  · refine xw_G (pc' := 22) (st' := [.int (0 : Int32), .ref 302]) rfl rfl trivial ?_
    refine xw_G (pc' := 23) (st' := [.ref 302, .int (0 : Int32), .ref 302]) rfl rfl trivial ?_
    refine xw_G (pc' := 24) (st' := [.int x3, .ref 302, .int (0 : Int32), .ref 302]) rfl rfl trivial ?_
    refine xw_G (pc' := 26) (st' := [.int x4, .int x3, .ref 302, .int (0 : Int32), .ref 302]) rfl rfl trivial ?_
    refine xb_e hf (fun v5 h6 e7 hf => ?_)
    refine xw_V (v := some (.int v5)) rfl rfl (xkf (xs_k hS rfl rfl : xm_k h2 302 = (11, 0))) (Nat.le_of_ble_eq_true rfl) (Nat.le_of_ble_eq_true rfl) (xm_Rn_le (Nat.le_of_ble_eq_true rfl) (t_X11_isAhead  hS e7).1) ?_
    have hS := (t_X11_isAhead  hS e7).2
    show xm_W _ _ _ 29 _ [.int v5, .int (0 : Int32), .ref 302] _
    refine xb_e hf (fun v8 h9 e10 hf => ?_)
    refine xw_V (v := some (.int v8)) rfl rfl (xkf (xs_k hS rfl rfl : xm_k h6 302 = (11, 0))) (Nat.le_of_ble_eq_true rfl) (Nat.le_of_ble_eq_true rfl) (xm_Rn_le (Nat.le_of_ble_eq_true rfl) (t_X11_good_  hS e10).1) ?_
    have hS := (t_X11_good_  hS e10).2
    show xm_W _ _ _ 32 _ [.int v8] _
    refine xj_if_ne rfl hf (fun hc11 hf => ?_) (fun hc11 hf => ?_)
    · refine xw_G (pc' := 36) (st' := [.int (0 : Int32)]) rfl rfl trivial ?_
      exact xr_i (inj := xji) rfl rfl rfl rfl hf hQ hS
    · refine xw_G (pc' := 38) (st' := [.ref 302]) rfl rfl trivial ?_
      refine xw_gr rfl (xkf (xs_k hS rfl rfl : xm_k h9 302 = (11, 0))) (xs_r hS rfl) ?_
      refine xw_G (pc' := 42) (st' := [.ref 302, .ref 303]) rfl rfl trivial ?_
      refine xw_gr rfl (xkf (xs_k hS rfl rfl : xm_k h9 302 = (11, 0))) (xs_r hS rfl) ?_
      refine xb_e hf (fun v12 h13 e14 hf => ?_)
      refine xw_S (v := none) rfl (Nat.le_of_ble_eq_true rfl) (Nat.le_of_ble_eq_true rfl) (xm_Rn_le (Nat.le_of_ble_eq_true rfl) (t_X11_copy  hS e14).1) ?_
      have hS := (t_X11_copy  hS e14).2
      show xm_W _ _ _ 48 _ [] _
      refine xw_G (pc' := 49) (st' := [.ref 302]) rfl rfl trivial ?_
      refine xw_G (pc' := 50) (st' := [.int x2, .ref 302]) rfl rfl trivial ?_
      refine xw_G (pc' := 51) (st' := [.int x3, .int x2, .ref 302]) rfl rfl trivial ?_
      refine xw_G (pc' := 53) (st' := [.int x4, .int x3, .int x2, .ref 302]) rfl rfl trivial ?_
      refine xb_e hf (fun v15 h16 e17 hf => ?_)
      refine xw_V (v := some (.int v15)) rfl rfl (xkf (xs_k hS rfl rfl : xm_k h13 302 = (11, 0))) (Nat.le_of_ble_eq_true rfl) (Nat.le_of_ble_eq_true rfl) (xm_Rn_le (Nat.le_of_ble_eq_true rfl) (t_X11_goAhead  hS e17).1) ?_
      have hS := (t_X11_goAhead  hS e17).2
      show xm_W _ _ _ 56 _ [.int v15] _
      refine xw_G (pc' := 58) (ls' := [some (.ref 302), some (.int x1), some (.int x2), some (.int x3), some (.int x4), some (.int v15), none]) (st' := []) rfl rfl (Nat.le_of_ble_eq_true rfl) ?_
      refine xw_G (pc' := 59) (st' := [.ref 302]) rfl rfl trivial ?_
      refine xw_G (pc' := 60) (st' := [.int x1, .ref 302]) rfl rfl trivial ?_
      refine xw_G (pc' := 61) (st' := [.int (3 : Int32), .int x1, .ref 302]) rfl rfl trivial ?_
      refine xb_e hf (fun v18 h19 e20 hf => ?_)
      refine xw_V (v := some (.int v18)) rfl rfl (xkf (xs_k hS rfl rfl : xm_k h16 302 = (11, 0))) (Nat.le_of_ble_eq_true rfl) (Nat.le_of_ble_eq_true rfl) (xm_Rn_le (Nat.le_of_ble_eq_true rfl) (t_X11_of  hS e20).1) ?_
      have hS := (t_X11_of  hS e20).2
      show xm_W _ _ _ 64 _ [.int v18] _
      refine xw_G (pc' := 66) (ls' := [some (.ref 302), some (.int x1), some (.int x2), some (.int x3), some (.int x4), some (.int v15), some (.int v18)]) (st' := []) rfl rfl (Nat.le_of_ble_eq_true rfl) ?_
      refine xw_G (pc' := 67) (st' := [.ref 302]) rfl rfl trivial ?_
      refine xw_gr rfl (xkf (xs_k hS rfl rfl : xm_k h19 302 = (11, 0))) (xs_r hS rfl) ?_
      refine xw_G (pc' := 71) (st' := [.ref 302, .ref 304]) rfl rfl trivial ?_
      refine xw_gr rfl (xkf (xs_k hS rfl rfl : xm_k h19 302 = (11, 0))) (xs_r hS rfl) ?_
      refine xb_e hf (fun v21 h22 e23 hf => ?_)
      refine xw_S (v := none) rfl (Nat.le_of_ble_eq_true rfl) (Nat.le_of_ble_eq_true rfl) (xm_Rn_le (Nat.le_of_ble_eq_true rfl) (t_X11_copy  hS e23).1) ?_
      have hS := (t_X11_copy  hS e23).2
      show xm_W _ _ _ 77 _ [] _
      refine xw_G (pc' := 79) (st' := [.int v18]) rfl rfl trivial ?_
      exact xr_i (inj := xji) rfl rfl rfl rfl hf hQ hS
  · refine xw_G (pc' := 10) (st' := [.ref 302, .ref 302]) rfl rfl trivial ?_
    refine xw_G (pc' := 11) (st' := [.int x2, .ref 302, .ref 302]) rfl rfl trivial ?_
    refine xb_e hf (fun v24 h25 e26 hf => ?_)
    refine xw_V (v := some (.int v24)) rfl rfl (xkf (xs_k hS rfl rfl : xm_k h2 302 = (11, 0))) (Nat.le_of_ble_eq_true rfl) (Nat.le_of_ble_eq_true rfl) (xm_Rn_le (Nat.le_of_ble_eq_true rfl) (t_X11_isTag  hS e26).1) ?_
    have hS := (t_X11_isTag  hS e26).2
    show xm_W _ _ _ 14 _ [.int v24, .ref 302] _
    refine xj_if_eq rfl hf (fun hc27 hf => ?_) (fun hc27 hf => ?_)
    · refine xw_G (pc' := 22) (st' := [.int (0 : Int32), .ref 302]) rfl rfl trivial ?_
      refine xw_G (pc' := 23) (st' := [.ref 302, .int (0 : Int32), .ref 302]) rfl rfl trivial ?_
      refine xw_G (pc' := 24) (st' := [.int x3, .ref 302, .int (0 : Int32), .ref 302]) rfl rfl trivial ?_
      refine xw_G (pc' := 26) (st' := [.int x4, .int x3, .ref 302, .int (0 : Int32), .ref 302]) rfl rfl trivial ?_
      refine xb_e hf (fun v28 h29 e30 hf => ?_)
      refine xw_V (v := some (.int v28)) rfl rfl (xkf (xs_k hS rfl rfl : xm_k h25 302 = (11, 0))) (Nat.le_of_ble_eq_true rfl) (Nat.le_of_ble_eq_true rfl) (xm_Rn_le (Nat.le_of_ble_eq_true rfl) (t_X11_isAhead  hS e30).1) ?_
      have hS := (t_X11_isAhead  hS e30).2
      show xm_W _ _ _ 29 _ [.int v28, .int (0 : Int32), .ref 302] _
      refine xb_e hf (fun v31 h32 e33 hf => ?_)
      refine xw_V (v := some (.int v31)) rfl rfl (xkf (xs_k hS rfl rfl : xm_k h29 302 = (11, 0))) (Nat.le_of_ble_eq_true rfl) (Nat.le_of_ble_eq_true rfl) (xm_Rn_le (Nat.le_of_ble_eq_true rfl) (t_X11_good_  hS e33).1) ?_
      have hS := (t_X11_good_  hS e33).2
      show xm_W _ _ _ 32 _ [.int v31] _
      refine xj_if_ne rfl hf (fun hc34 hf => ?_) (fun hc34 hf => ?_)
      · refine xw_G (pc' := 36) (st' := [.int (0 : Int32)]) rfl rfl trivial ?_
        exact xr_i (inj := xji) rfl rfl rfl rfl hf hQ hS
      · refine xw_G (pc' := 38) (st' := [.ref 302]) rfl rfl trivial ?_
        refine xw_gr rfl (xkf (xs_k hS rfl rfl : xm_k h32 302 = (11, 0))) (xs_r hS rfl) ?_
        refine xw_G (pc' := 42) (st' := [.ref 302, .ref 303]) rfl rfl trivial ?_
        refine xw_gr rfl (xkf (xs_k hS rfl rfl : xm_k h32 302 = (11, 0))) (xs_r hS rfl) ?_
        refine xb_e hf (fun v35 h36 e37 hf => ?_)
        refine xw_S (v := none) rfl (Nat.le_of_ble_eq_true rfl) (Nat.le_of_ble_eq_true rfl) (xm_Rn_le (Nat.le_of_ble_eq_true rfl) (t_X11_copy  hS e37).1) ?_
        have hS := (t_X11_copy  hS e37).2
        show xm_W _ _ _ 48 _ [] _
        refine xw_G (pc' := 49) (st' := [.ref 302]) rfl rfl trivial ?_
        refine xw_G (pc' := 50) (st' := [.int x2, .ref 302]) rfl rfl trivial ?_
        refine xw_G (pc' := 51) (st' := [.int x3, .int x2, .ref 302]) rfl rfl trivial ?_
        refine xw_G (pc' := 53) (st' := [.int x4, .int x3, .int x2, .ref 302]) rfl rfl trivial ?_
        refine xb_e hf (fun v38 h39 e40 hf => ?_)
        refine xw_V (v := some (.int v38)) rfl rfl (xkf (xs_k hS rfl rfl : xm_k h36 302 = (11, 0))) (Nat.le_of_ble_eq_true rfl) (Nat.le_of_ble_eq_true rfl) (xm_Rn_le (Nat.le_of_ble_eq_true rfl) (t_X11_goAhead  hS e40).1) ?_
        have hS := (t_X11_goAhead  hS e40).2
        show xm_W _ _ _ 56 _ [.int v38] _
        refine xw_G (pc' := 58) (ls' := [some (.ref 302), some (.int x1), some (.int x2), some (.int x3), some (.int x4), some (.int v38), none]) (st' := []) rfl rfl (Nat.le_of_ble_eq_true rfl) ?_
        refine xw_G (pc' := 59) (st' := [.ref 302]) rfl rfl trivial ?_
        refine xw_G (pc' := 60) (st' := [.int x1, .ref 302]) rfl rfl trivial ?_
        refine xw_G (pc' := 61) (st' := [.int (3 : Int32), .int x1, .ref 302]) rfl rfl trivial ?_
        refine xb_e hf (fun v41 h42 e43 hf => ?_)
        refine xw_V (v := some (.int v41)) rfl rfl (xkf (xs_k hS rfl rfl : xm_k h39 302 = (11, 0))) (Nat.le_of_ble_eq_true rfl) (Nat.le_of_ble_eq_true rfl) (xm_Rn_le (Nat.le_of_ble_eq_true rfl) (t_X11_of  hS e43).1) ?_
        have hS := (t_X11_of  hS e43).2
        show xm_W _ _ _ 64 _ [.int v41] _
        refine xw_G (pc' := 66) (ls' := [some (.ref 302), some (.int x1), some (.int x2), some (.int x3), some (.int x4), some (.int v38), some (.int v41)]) (st' := []) rfl rfl (Nat.le_of_ble_eq_true rfl) ?_
        refine xw_G (pc' := 67) (st' := [.ref 302]) rfl rfl trivial ?_
        refine xw_gr rfl (xkf (xs_k hS rfl rfl : xm_k h42 302 = (11, 0))) (xs_r hS rfl) ?_
        refine xw_G (pc' := 71) (st' := [.ref 302, .ref 304]) rfl rfl trivial ?_
        refine xw_gr rfl (xkf (xs_k hS rfl rfl : xm_k h42 302 = (11, 0))) (xs_r hS rfl) ?_
        refine xb_e hf (fun v44 h45 e46 hf => ?_)
        refine xw_S (v := none) rfl (Nat.le_of_ble_eq_true rfl) (Nat.le_of_ble_eq_true rfl) (xm_Rn_le (Nat.le_of_ble_eq_true rfl) (t_X11_copy  hS e46).1) ?_
        have hS := (t_X11_copy  hS e46).2
        show xm_W _ _ _ 77 _ [] _
        refine xw_G (pc' := 79) (st' := [.int v41]) rfl rfl trivial ?_
        exact xr_i (inj := xji) rfl rfl rfl rfl hf hQ hS
    · refine xw_G (pc' := 18) (st' := [.int (1 : Int32), .ref 302]) rfl rfl trivial ?_
      refine xw_G (pc' := 22) (st' := [.int (1 : Int32), .ref 302]) rfl rfl trivial ?_
      refine xw_G (pc' := 23) (st' := [.ref 302, .int (1 : Int32), .ref 302]) rfl rfl trivial ?_
      refine xw_G (pc' := 24) (st' := [.int x3, .ref 302, .int (1 : Int32), .ref 302]) rfl rfl trivial ?_
      refine xw_G (pc' := 26) (st' := [.int x4, .int x3, .ref 302, .int (1 : Int32), .ref 302]) rfl rfl trivial ?_
      refine xb_e hf (fun v47 h48 e49 hf => ?_)
      refine xw_V (v := some (.int v47)) rfl rfl (xkf (xs_k hS rfl rfl : xm_k h25 302 = (11, 0))) (Nat.le_of_ble_eq_true rfl) (Nat.le_of_ble_eq_true rfl) (xm_Rn_le (Nat.le_of_ble_eq_true rfl) (t_X11_isAhead  hS e49).1) ?_
      have hS := (t_X11_isAhead  hS e49).2
      show xm_W _ _ _ 29 _ [.int v47, .int (1 : Int32), .ref 302] _
      refine xb_e hf (fun v50 h51 e52 hf => ?_)
      refine xw_V (v := some (.int v50)) rfl rfl (xkf (xs_k hS rfl rfl : xm_k h48 302 = (11, 0))) (Nat.le_of_ble_eq_true rfl) (Nat.le_of_ble_eq_true rfl) (xm_Rn_le (Nat.le_of_ble_eq_true rfl) (t_X11_good_  hS e52).1) ?_
      have hS := (t_X11_good_  hS e52).2
      show xm_W _ _ _ 32 _ [.int v50] _
      refine xj_if_ne rfl hf (fun hc53 hf => ?_) (fun hc53 hf => ?_)
      · refine xw_G (pc' := 36) (st' := [.int (0 : Int32)]) rfl rfl trivial ?_
        exact xr_i (inj := xji) rfl rfl rfl rfl hf hQ hS
      · refine xw_G (pc' := 38) (st' := [.ref 302]) rfl rfl trivial ?_
        refine xw_gr rfl (xkf (xs_k hS rfl rfl : xm_k h51 302 = (11, 0))) (xs_r hS rfl) ?_
        refine xw_G (pc' := 42) (st' := [.ref 302, .ref 303]) rfl rfl trivial ?_
        refine xw_gr rfl (xkf (xs_k hS rfl rfl : xm_k h51 302 = (11, 0))) (xs_r hS rfl) ?_
        refine xb_e hf (fun v54 h55 e56 hf => ?_)
        refine xw_S (v := none) rfl (Nat.le_of_ble_eq_true rfl) (Nat.le_of_ble_eq_true rfl) (xm_Rn_le (Nat.le_of_ble_eq_true rfl) (t_X11_copy  hS e56).1) ?_
        have hS := (t_X11_copy  hS e56).2
        show xm_W _ _ _ 48 _ [] _
        refine xw_G (pc' := 49) (st' := [.ref 302]) rfl rfl trivial ?_
        refine xw_G (pc' := 50) (st' := [.int x2, .ref 302]) rfl rfl trivial ?_
        refine xw_G (pc' := 51) (st' := [.int x3, .int x2, .ref 302]) rfl rfl trivial ?_
        refine xw_G (pc' := 53) (st' := [.int x4, .int x3, .int x2, .ref 302]) rfl rfl trivial ?_
        refine xb_e hf (fun v57 h58 e59 hf => ?_)
        refine xw_V (v := some (.int v57)) rfl rfl (xkf (xs_k hS rfl rfl : xm_k h55 302 = (11, 0))) (Nat.le_of_ble_eq_true rfl) (Nat.le_of_ble_eq_true rfl) (xm_Rn_le (Nat.le_of_ble_eq_true rfl) (t_X11_goAhead  hS e59).1) ?_
        have hS := (t_X11_goAhead  hS e59).2
        show xm_W _ _ _ 56 _ [.int v57] _
        refine xw_G (pc' := 58) (ls' := [some (.ref 302), some (.int x1), some (.int x2), some (.int x3), some (.int x4), some (.int v57), none]) (st' := []) rfl rfl (Nat.le_of_ble_eq_true rfl) ?_
        refine xw_G (pc' := 59) (st' := [.ref 302]) rfl rfl trivial ?_
        refine xw_G (pc' := 60) (st' := [.int x1, .ref 302]) rfl rfl trivial ?_
        refine xw_G (pc' := 61) (st' := [.int (3 : Int32), .int x1, .ref 302]) rfl rfl trivial ?_
        refine xb_e hf (fun v60 h61 e62 hf => ?_)
        refine xw_V (v := some (.int v60)) rfl rfl (xkf (xs_k hS rfl rfl : xm_k h58 302 = (11, 0))) (Nat.le_of_ble_eq_true rfl) (Nat.le_of_ble_eq_true rfl) (xm_Rn_le (Nat.le_of_ble_eq_true rfl) (t_X11_of  hS e62).1) ?_
        have hS := (t_X11_of  hS e62).2
        show xm_W _ _ _ 64 _ [.int v60] _
        refine xw_G (pc' := 66) (ls' := [some (.ref 302), some (.int x1), some (.int x2), some (.int x3), some (.int x4), some (.int v57), some (.int v60)]) (st' := []) rfl rfl (Nat.le_of_ble_eq_true rfl) ?_
        refine xw_G (pc' := 67) (st' := [.ref 302]) rfl rfl trivial ?_
        refine xw_gr rfl (xkf (xs_k hS rfl rfl : xm_k h61 302 = (11, 0))) (xs_r hS rfl) ?_
        refine xw_G (pc' := 71) (st' := [.ref 302, .ref 304]) rfl rfl trivial ?_
        refine xw_gr rfl (xkf (xs_k hS rfl rfl : xm_k h61 302 = (11, 0))) (xs_r hS rfl) ?_
        refine xb_e hf (fun v63 h64 e65 hf => ?_)
        refine xw_S (v := none) rfl (Nat.le_of_ble_eq_true rfl) (Nat.le_of_ble_eq_true rfl) (xm_Rn_le (Nat.le_of_ble_eq_true rfl) (t_X11_copy  hS e65).1) ?_
        have hS := (t_X11_copy  hS e65).2
        show xm_W _ _ _ 77 _ [] _
        refine xw_G (pc' := 79) (st' := [.int v60]) rfl rfl trivial ?_
        exact xr_i (inj := xji) rfl rfl rfl rfl hf hQ hS
def f_X7_changeMode (x1 : Int32) (x2 : Int32) (h : xm_H) : Option (Unit × xm_H) := (if xin x1 8 then (xl (xm_si h 205 (Int32.toNatClampNeg x1) x2) fun h2 => (xl (xm_si h2 207 (Int32.toNatClampNeg x1) (100 : Int32)) fun h4 => (some ((), h4)))) else none)
theorem t_X7_changeMode {ρ : Nat} {δ : Nat} {x1 : Int32} {x2 : Int32} {h : xm_H} {w : Unit × xm_H}  (hS : xS ρ δ h) (hf : f_X7_changeMode x1 x2 h = some w) : xm_Rn xX 1 61 [.ref 201, .int x1, .int x2] h (xjv w.1) w.2 ∧ xS ρ δ w.2 := by
  refine xt_mk (φ := fun h => xS ρ δ h) (M := xM_X7_changeMode) (ls := [some (.ref 201), some (.int x1), some (.int x2)]) rfl (Nat.le_of_ble_eq_true rfl) rfl (fun Q hQ => ?_)
  unfold f_X7_changeMode at hf
  refine xw_G (pc' := 1) (st' := [.ref 201]) rfl rfl trivial ?_
  refine xw_gr rfl (xkf (xs_k hS rfl rfl : xm_k h 201 = (8, 0))) (xs_r hS rfl) ?_
  refine xw_G (pc' := 5) (st' := [.int x1, .ref 205]) rfl rfl trivial ?_
  refine xw_G (pc' := 6) (st' := [.int x2, .int x1, .ref 205]) rfl rfl trivial ?_
  refine xg_e hf (fun hg1 hf => ?_)
  refine xa_i rfl (xkf (xs_k hS rfl rfl : xm_k h 205 = (100, 8))) (xkn (xs_k hS rfl rfl : xm_k h 205 = (100, 8))) hg1 (Nat.le_of_ble_eq_true rfl) hf (fun h2 e3 hf => ?_)
  have hS := xS_si hS e3
  refine xw_G (pc' := 8) (st' := [.ref 201]) rfl rfl trivial ?_
  refine xw_gr rfl (xkf (xs_k hS rfl rfl : xm_k h2 201 = (8, 0))) (xs_r hS rfl) ?_
  refine xw_G (pc' := 12) (st' := [.int x1, .ref 207]) rfl rfl trivial ?_
  refine xw_G (pc' := 14) (st' := [.int (100 : Int32), .int x1, .ref 207]) rfl rfl trivial ?_
  refine xa_i rfl (xkf (xs_k hS rfl rfl : xm_k h2 207 = (100, 8))) (xkn (xs_k hS rfl rfl : xm_k h2 207 = (100, 8))) hg1 (Nat.le_of_ble_eq_true rfl) hf (fun h4 e5 hf => ?_)
  have hS := xS_si hS e5
  exact xr_v (inj := xjv) rfl rfl hf hQ hS
def f_X4_countOf_6B (N : Nat) (c1 : Int32) (c3 : Int32) (rec : Int32 → Int32 → xm_H → Option (Int32 × xm_H)) (c4 : Int32) (c5 : Int32) (h : xm_H) : Option (Int32 × xm_H) := (if c5 < c3 then (if xin c5 400 then (if (xm_i h 212 (Int32.toNatClampNeg c5)) = c1 then (rec (c4 + (1 : Int32)) (c5 + (1 : Int32)) h) else (rec c4 (c5 + (1 : Int32)) h)) else none) else (some (c4, h)))
def f_X4_countOf_6 (N : Nat) (c1 : Int32) (c3 : Int32) : Nat → Int32 → Int32 → xm_H → Option (Int32 × xm_H)
  | 0 => fun _ _ _ => none
  | n + 1 => fun c4 c5 h => f_X4_countOf_6B N c1 c3 (f_X4_countOf_6 N c1 c3 n) c4 c5 h
def f_X4_countOf (N : Nat) (x1 : Int32) (x2 : Int32) (x3 : Int32) (h : xm_H) : Option (Int32 × xm_H) := (f_X4_countOf_6 N x1 x3 N (0 : Int32) x2 h)
theorem tl_X4_countOf_6 {ρ : Nat} {δ : Nat} {N : Nat} {c1 : Int32} {c3 : Int32} {Q : xm_O → xm_H → Prop} {w : Int32 × xm_H}  (hQ : xS ρ δ w.2 → Q (xji w.1) w.2)  : ∀ (n : Nat) (c4 : Int32) (c5 : Int32) (h : xm_H), xS ρ δ h → f_X4_countOf_6 N c1 c3 n c4 c5 h = some w → xm_W (xm_Rn xX 0) xM_X4_countOf Q 6 [some (.ref 209), some (.int c1), none, some (.int c3), some (.int c4), some (.int c5)] [] h := by
  intro n
  induction n with
  | zero =>
    intro c4 c5 h hS hf
    exact (xn_e hf).elim
  | succ n ih =>
    intro c4 c5 h hS hf
    replace hf : f_X4_countOf_6B N c1 c3 (f_X4_countOf_6 N c1 c3 n) c4 c5 h = some w := hf
    unfold f_X4_countOf_6B at hf
    refine xw_K (pc' := 8) (ls' := [some (.ref 209), some (.int c1), none, some (.int c3), some (.int c4), some (.int c5)]) (st' := [.int c5]) rfl rfl trivial ?_
    refine xw_G (pc' := 9) (st' := [.int c3, .int c5]) rfl rfl trivial ?_
    refine xj_ic_ge rfl hf (fun hc1 hf => ?_) (fun hc1 hf => ?_)
    · refine xw_G (pc' := 13) (st' := [.ref 209]) rfl rfl trivial ?_
      refine xw_gr rfl (xkf (xs_k hS rfl rfl : xm_k h 209 = (5, 0))) (xs_r hS rfl) ?_
      refine xw_G (pc' := 18) (st' := [.int c5, .ref 212]) rfl rfl trivial ?_
      refine xg_e hf (fun hg2 hf => ?_)
      refine xa_ld (t := 100) (τ := 0) (v := .int (xm_i h 212 (Int32.toNatClampNeg c5))) rfl rfl (xkf (xs_k hS rfl rfl : xm_k h 212 = (100, 400))) (xkn (xs_k hS rfl rfl : xm_k h 212 = (100, 400))) hg2 rfl ?_
      refine xw_G (pc' := 20) (st' := [.int c1, .int (xm_i h 212 (Int32.toNatClampNeg c5))]) rfl rfl trivial ?_
      refine xj_ic_ne rfl hf (fun hc3 hf => ?_) (fun hc3 hf => ?_)
      · refine xw_G (pc' := 26) (ls' := [some (.ref 209), some (.int c1), none, some (.int c3), some (.int (c4 + (1 : Int32))), some (.int c5)]) (st' := []) rfl rfl (Nat.le_of_ble_eq_true rfl) ?_
        refine xw_G (pc' := 29) (ls' := [some (.ref 209), some (.int c1), none, some (.int c3), some (.int (c4 + (1 : Int32))), some (.int (c5 + (1 : Int32)))]) (st' := []) rfl rfl (Nat.le_of_ble_eq_true rfl) ?_
        refine xw_G (pc' := 6) (st' := []) rfl rfl trivial ?_
        refine xw_M rfl rfl ?_
        exact ih _ _ _ hS hf
      · refine xw_G (pc' := 29) (ls' := [some (.ref 209), some (.int c1), none, some (.int c3), some (.int c4), some (.int (c5 + (1 : Int32)))]) (st' := []) rfl rfl (Nat.le_of_ble_eq_true rfl) ?_
        refine xw_G (pc' := 6) (st' := []) rfl rfl trivial ?_
        refine xw_M rfl rfl ?_
        exact ih _ _ _ hS hf
    · refine xw_G (pc' := 34) (st' := [.int c4]) rfl rfl trivial ?_
      exact xr_i (inj := xji) rfl rfl rfl rfl hf hQ hS
theorem t_X4_countOf {N : Nat} {ρ : Nat} {δ : Nat} {x1 : Int32} {x2 : Int32} {x3 : Int32} {h : xm_H} {w : Int32 × xm_H}  (hS : xS ρ δ h) (hf : f_X4_countOf N x1 x2 x3 h = some w) : xm_Rn xX 1 33 [.ref 209, .int x1, .int x2, .int x3] h (xji w.1) w.2 ∧ xS ρ δ w.2 := by
  refine xt_mk (φ := fun h => xS ρ δ h) (M := xM_X4_countOf) (ls := [some (.ref 209), some (.int x1), some (.int x2), some (.int x3), none, none]) rfl (Nat.le_of_ble_eq_true rfl) rfl (fun Q hQ => ?_)
  unfold f_X4_countOf at hf
  refine xw_G (pc' := 1) (st' := [.int (0 : Int32)]) rfl rfl trivial ?_
  refine xw_G (pc' := 3) (ls' := [some (.ref 209), some (.int x1), some (.int x2), some (.int x3), some (.int (0 : Int32)), none]) (st' := []) rfl rfl (Nat.le_of_ble_eq_true rfl) ?_
  refine xw_G (pc' := 4) (st' := [.int x2]) rfl rfl trivial ?_
  refine xw_G (pc' := 6) (ls' := [some (.ref 209), some (.int x1), some (.int x2), some (.int x3), some (.int (0 : Int32)), some (.int x2)]) (st' := []) rfl rfl (Nat.le_of_ble_eq_true rfl) ?_
  refine xw_M rfl rfl ?_
  refine tl_X4_countOf_6  hQ  _ _ _ _ hS hf
def f_X10_bestMode_32B (N : Nat) (ρ : Nat) (c1 : Int32) (c2 : Int32) (c3 : Int32) (c4 : Int32) (rec : Int32 → Int32 → Int32 → xm_H → Option ((Int32 ⊕ Nat × Nat) × xm_H)) (c5 : Int32) (c6 : Int32) (c7 : Int32) (h : xm_H) : Option ((Int32 ⊕ Nat × Nat) × xm_H) := (if (2 : Int32) < c7 then (some (.inl c5, h)) else (xb (f_X7_copy 220 201 h) fun v2 h3 => (xb (f_X7_changeMode c1 c7 h3) fun v5 h6 => (xb (f_X10_tryAhead N ρ c2 c3 c4 h6) fun v8 h9 => (xb (f_X4_countOf N c1 (xm_i h9 220 2) (xm_i h9 201 2) h9) fun v11 h12 => (xb (f_X7_copy 201 220 h12) fun v14 h15 => (if c6 < v11 then (rec c7 v11 (c7 + (1 : Int32)) h15) else (rec c5 c6 (c7 + (1 : Int32)) h15))))))))
def f_X10_bestMode_32 (N : Nat) (ρ : Nat) (c1 : Int32) (c2 : Int32) (c3 : Int32) (c4 : Int32) : Nat → Int32 → Int32 → Int32 → xm_H → Option ((Int32 ⊕ Nat × Nat) × xm_H)
  | 0 => fun _ _ _ _ => none
  | n + 1 => fun c5 c6 c7 h => f_X10_bestMode_32B N ρ c1 c2 c3 c4 (f_X10_bestMode_32 N ρ c1 c2 c3 c4 n) c5 c6 c7 h
def f_X10_bestMode (N : Nat) (ρ : Nat) (x1 : Int32) (x2 : Int32) (x3 : Int32) (x4 : Int32) (h : xm_H) : Option ((Int32 ⊕ Nat × Nat) × xm_H) := (xe (f_X10_requireCampaign ρ x1 h) (fun v1 h2 => (xe (f_X10_requireTag ρ x2 h2) (fun v4 h5 => (xe (f_X10_requireSlots ρ x3 h5) (fun v7 h8 => (xe (f_X10_requireRange x4 (1 : Int32) (60 : Int32) h8) (fun v10 h11 => (f_X10_bestMode_32 N ρ x1 x2 x3 x4 N (0 : Int32) (-1 : Int32) (0 : Int32) h11)) (fun q13 h14 => (some (.inr q13, h14))))) (fun q16 h17 => (some (.inr q16, h17))))) (fun q19 h20 => (some (.inr q19, h20))))) (fun q22 h23 => (some (.inr q22, h23))))
theorem tl_X10_bestMode_32 {δ : Nat} {N : Nat} {ρ : Nat} {c1 : Int32} {c2 : Int32} {c3 : Int32} {c4 : Int32} {Q : xm_O → xm_H → Prop} {w : (Int32 ⊕ Nat × Nat) × xm_H}  (hQ : xS ρ δ w.2 → Q (xti w.1) w.2)  : ∀ (n : Nat) (c5 : Int32) (c6 : Int32) (c7 : Int32) (h : xm_H), xS ρ δ h → f_X10_bestMode_32 N ρ c1 c2 c3 c4 n c5 c6 c7 h = some w → xm_W (xm_Rn xX 5) xM_X10_bestMode Q 32 [some (.ref 160), some (.int c1), some (.int c2), some (.int c3), some (.int c4), some (.int c5), some (.int c6), some (.int c7), none] [] h := by
  intro n
  induction n with
  | zero =>
    intro c5 c6 c7 h hS hf
    exact (xn_e hf).elim
  | succ n ih =>
    intro c5 c6 c7 h hS hf
    replace hf : f_X10_bestMode_32B N ρ c1 c2 c3 c4 (f_X10_bestMode_32 N ρ c1 c2 c3 c4 n) c5 c6 c7 h = some w := hf
    unfold f_X10_bestMode_32B at hf
    refine xw_K (pc' := 34) (ls' := [some (.ref 160), some (.int c1), some (.int c2), some (.int c3), some (.int c4), some (.int c5), some (.int c6), some (.int c7), none]) (st' := [.int c7]) rfl rfl trivial ?_
    refine xw_G (pc' := 35) (st' := [.int (2 : Int32), .int c7]) rfl rfl trivial ?_
    refine xj_ic_gt rfl hf (fun hc1 hf => ?_) (fun hc1 hf => ?_)
    · refine xw_G (pc' := 140) (st' := [.int c5]) rfl rfl trivial ?_
      exact xr_i (inj := xti) rfl rfl rfl rfl hf hQ hS
    · refine xw_G (pc' := 39) (st' := [.ref 160]) rfl rfl trivial ?_
      refine xw_gr rfl (xkf (xs_k hS rfl rfl : xm_k h 160 = (0, 0))) (xs_r hS rfl) ?_
      refine xw_G (pc' := 43) (st' := [.ref 160, .ref 220]) rfl rfl trivial ?_
      refine xw_gr rfl (xkf (xs_k hS rfl rfl : xm_k h 160 = (0, 0))) (xs_r hS rfl) ?_
      refine xw_gr rfl (xkf (xs_k hS rfl rfl : xm_k h 182 = (3, 0))) (xs_r hS rfl) ?_
      refine xb_e hf (fun v2 h3 e4 hf => ?_)
      refine xw_V (v := none) rfl rfl (xkf (xs_k hS rfl rfl : xm_k h 220 = (8, 0))) (Nat.le_of_ble_eq_true rfl) (Nat.le_of_ble_eq_true rfl) (xm_Rn_le (Nat.le_of_ble_eq_true rfl) (t_X7_copy (Or.inr (Or.inl rfl)) (Or.inl rfl) hS e4).1) ?_
      have hS := (t_X7_copy (Or.inr (Or.inl rfl)) (Or.inl rfl) hS e4).2
      show xm_W _ _ _ 52 _ [] _
      refine xw_G (pc' := 53) (st' := [.ref 160]) rfl rfl trivial ?_
      refine xw_gr rfl (xkf (xs_k hS rfl rfl : xm_k h3 160 = (0, 0))) (xs_r hS rfl) ?_
      refine xw_gr rfl (xkf (xs_k hS rfl rfl : xm_k h3 182 = (3, 0))) (xs_r hS rfl) ?_
      refine xw_G (pc' := 60) (st' := [.int c1, .ref 201]) rfl rfl trivial ?_
      refine xw_G (pc' := 62) (st' := [.int c7, .int c1, .ref 201]) rfl rfl trivial ?_
      refine xb_e hf (fun v5 h6 e7 hf => ?_)
      refine xw_V (v := none) rfl rfl (xkf (xs_k hS rfl rfl : xm_k h3 201 = (8, 0))) (Nat.le_of_ble_eq_true rfl) (Nat.le_of_ble_eq_true rfl) (xm_Rn_le (Nat.le_of_ble_eq_true rfl) (t_X7_changeMode  hS e7).1) ?_
      have hS := (t_X7_changeMode  hS e7).2
      show xm_W _ _ _ 65 _ [] _
      refine xw_G (pc' := 66) (st' := [.ref 160]) rfl rfl trivial ?_
      refine xw_G (pc' := 67) (st' := [.int c2, .ref 160]) rfl rfl trivial ?_
      refine xw_G (pc' := 68) (st' := [.int c3, .int c2, .ref 160]) rfl rfl trivial ?_
      refine xw_G (pc' := 70) (st' := [.int c4, .int c3, .int c2, .ref 160]) rfl rfl trivial ?_
      refine xb_e hf (fun v8 h9 e10 hf => ?_)
      refine xw_V (v := none) rfl rfl (xkf (xs_k hS rfl rfl : xm_k h6 160 = (0, 0))) (Nat.le_of_ble_eq_true rfl) (Nat.le_of_ble_eq_true rfl) (xm_Rn_le (Nat.le_of_ble_eq_true rfl) (t_X10_tryAhead  hS e10).1) ?_
      have hS := (t_X10_tryAhead  hS e10).2
      show xm_W _ _ _ 73 _ [] _
      refine xw_G (pc' := 74) (st' := [.ref 160]) rfl rfl trivial ?_
      refine xw_gr rfl (xkf (xs_k hS rfl rfl : xm_k h9 160 = (0, 0))) (xs_r hS rfl) ?_
      refine xw_gr rfl (xkf (xs_k hS rfl rfl : xm_k h9 182 = (3, 0))) (xs_r hS rfl) ?_
      refine xw_G (pc' := 81) (st' := [.int c1, .ref 209]) rfl rfl trivial ?_
      refine xw_G (pc' := 82) (st' := [.ref 160, .int c1, .ref 209]) rfl rfl trivial ?_
      refine xw_gr rfl (xkf (xs_k hS rfl rfl : xm_k h9 160 = (0, 0))) (xs_r hS rfl) ?_
      refine xw_G (pc' := 88) (st' := [.int (xm_i h9 220 2), .int c1, .ref 209]) rfl rfl (xkf (xs_k hS rfl rfl : xm_k h9 220 = (8, 0))) ?_
      refine xw_G (pc' := 89) (st' := [.ref 160, .int (xm_i h9 220 2), .int c1, .ref 209]) rfl rfl trivial ?_
      refine xw_gr rfl (xkf (xs_k hS rfl rfl : xm_k h9 160 = (0, 0))) (xs_r hS rfl) ?_
      refine xw_gr rfl (xkf (xs_k hS rfl rfl : xm_k h9 182 = (3, 0))) (xs_r hS rfl) ?_
      refine xw_G (pc' := 98) (st' := [.int (xm_i h9 201 2), .int (xm_i h9 220 2), .int c1, .ref 209]) rfl rfl (xkf (xs_k hS rfl rfl : xm_k h9 201 = (8, 0))) ?_
      refine xb_e hf (fun v11 h12 e13 hf => ?_)
      refine xw_V (v := some (.int v11)) rfl rfl (xkf (xs_k hS rfl rfl : xm_k h9 209 = (5, 0))) (Nat.le_of_ble_eq_true rfl) (Nat.le_of_ble_eq_true rfl) (xm_Rn_le (Nat.le_of_ble_eq_true rfl) (t_X4_countOf  hS e13).1) ?_
      have hS := (t_X4_countOf  hS e13).2
      show xm_W _ _ _ 101 _ [.int v11] _
      refine xw_G (pc' := 103) (ls' := [some (.ref 160), some (.int c1), some (.int c2), some (.int c3), some (.int c4), some (.int c5), some (.int c6), some (.int c7), some (.int v11)]) (st' := []) rfl rfl (Nat.le_of_ble_eq_true rfl) ?_
      refine xw_G (pc' := 104) (st' := [.ref 160]) rfl rfl trivial ?_
      refine xw_gr rfl (xkf (xs_k hS rfl rfl : xm_k h12 160 = (0, 0))) (xs_r hS rfl) ?_
      refine xw_gr rfl (xkf (xs_k hS rfl rfl : xm_k h12 182 = (3, 0))) (xs_r hS rfl) ?_
      refine xw_G (pc' := 111) (st' := [.ref 160, .ref 201]) rfl rfl trivial ?_
      refine xw_gr rfl (xkf (xs_k hS rfl rfl : xm_k h12 160 = (0, 0))) (xs_r hS rfl) ?_
      refine xb_e hf (fun v14 h15 e16 hf => ?_)
      refine xw_V (v := none) rfl rfl (xkf (xs_k hS rfl rfl : xm_k h12 201 = (8, 0))) (Nat.le_of_ble_eq_true rfl) (Nat.le_of_ble_eq_true rfl) (xm_Rn_le (Nat.le_of_ble_eq_true rfl) (t_X7_copy (Or.inl rfl) (Or.inr (Or.inl rfl)) hS e16).1) ?_
      have hS := (t_X7_copy (Or.inl rfl) (Or.inr (Or.inl rfl)) hS e16).2
      show xm_W _ _ _ 117 _ [] _
      refine xw_G (pc' := 119) (st' := [.int v11]) rfl rfl trivial ?_
      refine xw_G (pc' := 121) (st' := [.int c6, .int v11]) rfl rfl trivial ?_
      refine xj_ic_le rfl hf (fun hc17 hf => ?_) (fun hc17 hf => ?_)
      · refine xw_G (pc' := 126) (st' := [.int c7]) rfl rfl trivial ?_
        refine xw_G (pc' := 128) (ls' := [some (.ref 160), some (.int c1), some (.int c2), some (.int c3), some (.int c4), some (.int c7), some (.int c6), some (.int c7), some (.int v11)]) (st' := []) rfl rfl (Nat.le_of_ble_eq_true rfl) ?_
        refine xw_G (pc' := 130) (st' := [.int v11]) rfl rfl trivial ?_
        refine xw_G (pc' := 132) (ls' := [some (.ref 160), some (.int c1), some (.int c2), some (.int c3), some (.int c4), some (.int c7), some (.int v11), some (.int c7), some (.int v11)]) (st' := []) rfl rfl (Nat.le_of_ble_eq_true rfl) ?_
        refine xw_G (pc' := 135) (ls' := [some (.ref 160), some (.int c1), some (.int c2), some (.int c3), some (.int c4), some (.int c7), some (.int v11), some (.int (c7 + (1 : Int32))), some (.int v11)]) (st' := []) rfl rfl (Nat.le_of_ble_eq_true rfl) ?_
        refine xw_G (pc' := 32) (st' := []) rfl rfl trivial ?_
        refine xw_M rfl rfl ?_
        exact ih _ _ _ _ hS hf
      · refine xw_G (pc' := 135) (ls' := [some (.ref 160), some (.int c1), some (.int c2), some (.int c3), some (.int c4), some (.int c5), some (.int c6), some (.int (c7 + (1 : Int32))), some (.int v11)]) (st' := []) rfl rfl (Nat.le_of_ble_eq_true rfl) ?_
        refine xw_G (pc' := 32) (st' := []) rfl rfl trivial ?_
        refine xw_M rfl rfl ?_
        exact ih _ _ _ _ hS hf
theorem t_X10_bestMode {N : Nat} {ρ : Nat} {δ : Nat} {x1 : Int32} {x2 : Int32} {x3 : Int32} {x4 : Int32} {h : xm_H} {w : (Int32 ⊕ Nat × Nat) × xm_H}  (hS : xS ρ δ h) (hf : f_X10_bestMode N ρ x1 x2 x3 x4 h = some w) : xm_Rn xX 6 97 [.ref 160, .int x1, .int x2, .int x3, .int x4] h (xti w.1) w.2 ∧ xS ρ δ w.2 := by
  refine xt_mk (φ := fun h => xS ρ δ h) (M := xM_X10_bestMode) (ls := [some (.ref 160), some (.int x1), some (.int x2), some (.int x3), some (.int x4), none, none, none, none]) rfl (Nat.le_of_ble_eq_true rfl) rfl (fun Q hQ => ?_)
  unfold f_X10_bestMode at hf
  refine xw_G (pc' := 1) (st' := [.ref 160]) rfl rfl trivial ?_
  refine xw_G (pc' := 2) (st' := [.int x1, .ref 160]) rfl rfl trivial ?_
  refine xe_e hf (fun v1 h2 e3 hf => ?_) (fun q22 h23 e3 hf => ?_)
  · refine xw_V (v := none) rfl rfl (xkf (xs_k hS rfl rfl : xm_k h 160 = (0, 0))) (Nat.le_of_ble_eq_true rfl) (Nat.le_of_ble_eq_true rfl) (xm_Rn_le (Nat.le_of_ble_eq_true rfl) (t_X10_requireCampaign  hS e3).1) ?_
    have hS := (t_X10_requireCampaign  hS e3).2
    show xm_W _ _ _ 5 _ [] _
    refine xw_G (pc' := 6) (st' := [.ref 160]) rfl rfl trivial ?_
    refine xw_G (pc' := 7) (st' := [.int x2, .ref 160]) rfl rfl trivial ?_
    refine xe_e hf (fun v4 h5 e6 hf => ?_) (fun q19 h20 e6 hf => ?_)
    · refine xw_V (v := none) rfl rfl (xkf (xs_k hS rfl rfl : xm_k h2 160 = (0, 0))) (Nat.le_of_ble_eq_true rfl) (Nat.le_of_ble_eq_true rfl) (xm_Rn_le (Nat.le_of_ble_eq_true rfl) (t_X10_requireTag  hS e6).1) ?_
      have hS := (t_X10_requireTag  hS e6).2
      show xm_W _ _ _ 10 _ [] _
      refine xw_G (pc' := 11) (st' := [.ref 160]) rfl rfl trivial ?_
      refine xw_G (pc' := 12) (st' := [.int x3, .ref 160]) rfl rfl trivial ?_
      refine xe_e hf (fun v7 h8 e9 hf => ?_) (fun q16 h17 e9 hf => ?_)
      · refine xw_V (v := none) rfl rfl (xkf (xs_k hS rfl rfl : xm_k h5 160 = (0, 0))) (Nat.le_of_ble_eq_true rfl) (Nat.le_of_ble_eq_true rfl) (xm_Rn_le (Nat.le_of_ble_eq_true rfl) (t_X10_requireSlots  hS e9).1) ?_
        have hS := (t_X10_requireSlots  hS e9).2
        show xm_W _ _ _ 15 _ [] _
        refine xw_G (pc' := 17) (st' := [.int x4]) rfl rfl trivial ?_
        refine xw_G (pc' := 18) (st' := [.int (1 : Int32), .int x4]) rfl rfl trivial ?_
        refine xw_G (pc' := 20) (st' := [.int (60 : Int32), .int (1 : Int32), .int x4]) rfl rfl trivial ?_
        refine xe_e hf (fun v10 h11 e12 hf => ?_) (fun q13 h14 e12 hf => ?_)
        · refine xw_S (v := none) rfl (Nat.le_of_ble_eq_true rfl) (Nat.le_of_ble_eq_true rfl) (xm_Rn_le (Nat.le_of_ble_eq_true rfl) (t_X10_requireRange  hS e12).1) ?_
          have hS := (t_X10_requireRange  hS e12).2
          show xm_W _ _ _ 23 _ [] _
          refine xw_G (pc' := 24) (st' := [.int (0 : Int32)]) rfl rfl trivial ?_
          refine xw_G (pc' := 26) (ls' := [some (.ref 160), some (.int x1), some (.int x2), some (.int x3), some (.int x4), some (.int (0 : Int32)), none, none, none]) (st' := []) rfl rfl (Nat.le_of_ble_eq_true rfl) ?_
          refine xw_G (pc' := 27) (st' := [.int (-1 : Int32)]) rfl rfl trivial ?_
          refine xw_G (pc' := 29) (ls' := [some (.ref 160), some (.int x1), some (.int x2), some (.int x3), some (.int x4), some (.int (0 : Int32)), some (.int (-1 : Int32)), none, none]) (st' := []) rfl rfl (Nat.le_of_ble_eq_true rfl) ?_
          refine xw_G (pc' := 30) (st' := [.int (0 : Int32)]) rfl rfl trivial ?_
          refine xw_G (pc' := 32) (ls' := [some (.ref 160), some (.int x1), some (.int x2), some (.int x3), some (.int x4), some (.int (0 : Int32)), some (.int (-1 : Int32)), some (.int (0 : Int32)), none]) (st' := []) rfl rfl (Nat.le_of_ble_eq_true rfl) ?_
          refine xw_M rfl rfl ?_
          refine tl_X10_bestMode_32  hQ  _ _ _ _ _ hS hf
        · refine xw_SX (x := q13) rfl (Nat.le_of_ble_eq_true rfl) (Nat.le_of_ble_eq_true rfl) (xm_Rn_le (Nat.le_of_ble_eq_true rfl) (t_X10_requireRange  hS e12).1) rfl ?_
          have hS := (t_X10_requireRange  hS e12).2
          exact xr_x (inj := xti) rfl hf hQ hS
      · refine xw_VX (x := q16) rfl rfl (xkf (xs_k hS rfl rfl : xm_k h5 160 = (0, 0))) (Nat.le_of_ble_eq_true rfl) (Nat.le_of_ble_eq_true rfl) (xm_Rn_le (Nat.le_of_ble_eq_true rfl) (t_X10_requireSlots  hS e9).1) rfl ?_
        have hS := (t_X10_requireSlots  hS e9).2
        exact xr_x (inj := xti) rfl hf hQ hS
    · refine xw_VX (x := q19) rfl rfl (xkf (xs_k hS rfl rfl : xm_k h2 160 = (0, 0))) (Nat.le_of_ble_eq_true rfl) (Nat.le_of_ble_eq_true rfl) (xm_Rn_le (Nat.le_of_ble_eq_true rfl) (t_X10_requireTag  hS e6).1) rfl ?_
      have hS := (t_X10_requireTag  hS e6).2
      exact xr_x (inj := xti) rfl hf hQ hS
  · refine xw_VX (x := q22) rfl rfl (xkf (xs_k hS rfl rfl : xm_k h 160 = (0, 0))) (Nat.le_of_ble_eq_true rfl) (Nat.le_of_ble_eq_true rfl) (xm_Rn_le (Nat.le_of_ble_eq_true rfl) (t_X10_requireCampaign  hS e3).1) rfl ?_
    have hS := (t_X10_requireCampaign  hS e3).2
    exact xr_x (inj := xti) rfl hf hQ hS
