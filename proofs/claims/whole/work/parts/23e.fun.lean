/-! printed by wip/gen/gen23.py: methods as functions of their arguments and the heap -/
def f_X11_ranked (N : Nat) (x1 : Int32) (x2 : Int32) (x3 : Int32) (h : xm_H) : Option (Int32 × xm_H) := (xb (f_X11_isTag x2 h) fun v1 h2 => (xb (f_X11_isUser x1 h2) fun v4 h5 => (if v4 = 0 then (xb (f_X11_good_ v1 (0 : Int32) h5) fun v8 h9 => (if v8 = 0 then (some ((0 : Int32), h9)) else (xb (f_X11_auction N x1 x2 (1 : Int32) h9) fun v12 h13 => (if x3 < (xm_i h13 302 27) then (if xin x3 8 then (some (xm_i h13 312 (Int32.toNatClampNeg x3), h13)) else none) else (some ((-1 : Int32), h13)))))) else (if x3 < 0 then (xb (f_X11_good_ v1 (0 : Int32) h5) fun v18 h19 => (if v18 = 0 then (some ((0 : Int32), h19)) else (xb (f_X11_auction N x1 x2 (1 : Int32) h19) fun v22 h23 => (if x3 < (xm_i h23 302 27) then (if xin x3 8 then (some (xm_i h23 312 (Int32.toNatClampNeg x3), h23)) else none) else (some ((-1 : Int32), h23)))))) else (xb (f_X11_good_ v1 (1 : Int32) h5) fun v27 h28 => (if v27 = 0 then (some ((0 : Int32), h28)) else (xb (f_X11_auction N x1 x2 (1 : Int32) h28) fun v31 h32 => (if x3 < (xm_i h32 302 27) then (if xin x3 8 then (some (xm_i h32 312 (Int32.toNatClampNeg x3), h32)) else none) else (some ((-1 : Int32), h32))))))))))
theorem t_X11_ranked {N : Nat} {ρ : Nat} {δ : Nat} {x1 : Int32} {x2 : Int32} {x3 : Int32} {h : xm_H} {w : Int32 × xm_H}  (hS : xS ρ δ h) (hf : f_X11_ranked N x1 x2 x3 h = some w) : xm_Rn xX 5 201 [.ref 302, .int x1, .int x2, .int x3] h (xji w.1) w.2 ∧ xS ρ δ w.2 := by
  refine xt_mk (φ := fun h => xS ρ δ h) (M := xM_X11_ranked) (ls := [some (.ref 302), some (.int x1), some (.int x2), some (.int x3)]) rfl (Nat.le_of_ble_eq_true rfl) rfl (fun Q hQ => ?_)
  unfold f_X11_ranked at hf
  refine xw_G (pc' := 1) (st' := [.ref 302]) rfl rfl trivial ?_
  refine xw_G (pc' := 2) (st' := [.ref 302, .ref 302]) rfl rfl trivial ?_
  refine xw_G (pc' := 3) (st' := [.int x2, .ref 302, .ref 302]) rfl rfl trivial ?_
  refine xb_e hf (fun v1 h2 e3 hf => ?_)
  refine xw_V (v := some (.int v1)) rfl rfl (xkf (xs_k hS rfl rfl : xm_k h 302 = (11, 0))) (Nat.le_of_ble_eq_true rfl) (Nat.le_of_ble_eq_true rfl) (xm_Rn_le (Nat.le_of_ble_eq_true rfl) (t_X11_isTag  hS e3).1) ?_
  have hS := (t_X11_isTag  hS e3).2
  show xm_W _ _ _ 6 _ [.int v1, .ref 302] _
  refine xw_G (pc' := 7) (st' := [.int x1, .int v1, .ref 302]) rfl rfl trivial ?_
  refine xb_e hf (fun v4 h5 e6 hf => ?_)
  refine xw_S (v := some (.int v4)) rfl (Nat.le_of_ble_eq_true rfl) (Nat.le_of_ble_eq_true rfl) (xm_Rn_le (Nat.le_of_ble_eq_true rfl) (t_X11_isUser  hS e6).1) ?_
  have hS := (t_X11_isUser  hS e6).2
  show xm_W _ _ _ 10 _ [.int v4, .int v1, .ref 302] _
  refine xj_if_eq rfl hf (fun hc7 hf => ?_) (fun hc7 hf => ?_)
  · refine xw_G (pc' := 22) (st' := [.int (0 : Int32), .int v1, .ref 302]) rfl rfl trivial ?_
    refine xb_e hf (fun v8 h9 e10 hf => ?_)
    refine xw_V (v := some (.int v8)) rfl rfl (xkf (xs_k hS rfl rfl : xm_k h5 302 = (11, 0))) (Nat.le_of_ble_eq_true rfl) (Nat.le_of_ble_eq_true rfl) (xm_Rn_le (Nat.le_of_ble_eq_true rfl) (t_X11_good_  hS e10).1) ?_
    have hS := (t_X11_good_  hS e10).2
    show xm_W _ _ _ 25 _ [.int v8] _
    refine xj_if_ne rfl hf (fun hc11 hf => ?_) (fun hc11 hf => ?_)
    · refine xw_G (pc' := 29) (st' := [.int (0 : Int32)]) rfl rfl trivial ?_
      exact xr_i (inj := xji) rfl rfl rfl rfl hf hQ hS
    · refine xw_G (pc' := 31) (st' := [.ref 302]) rfl rfl trivial ?_
      refine xw_G (pc' := 32) (st' := [.int x1, .ref 302]) rfl rfl trivial ?_
      refine xw_G (pc' := 33) (st' := [.int x2, .int x1, .ref 302]) rfl rfl trivial ?_
      refine xw_G (pc' := 34) (st' := [.int (1 : Int32), .int x2, .int x1, .ref 302]) rfl rfl trivial ?_
      refine xb_e hf (fun v12 h13 e14 hf => ?_)
      refine xw_V (v := none) rfl rfl (xkf (xs_k hS rfl rfl : xm_k h9 302 = (11, 0))) (Nat.le_of_ble_eq_true rfl) (Nat.le_of_ble_eq_true rfl) (xm_Rn_le (Nat.le_of_ble_eq_true rfl) (t_X11_auction  hS e14).1) ?_
      have hS := (t_X11_auction  hS e14).2
      show xm_W _ _ _ 37 _ [] _
      refine xw_G (pc' := 38) (st' := [.int x3]) rfl rfl trivial ?_
      refine xw_G (pc' := 39) (st' := [.ref 302, .int x3]) rfl rfl trivial ?_
      refine xw_G (pc' := 42) (st' := [.int (xm_i h13 302 27), .int x3]) rfl rfl (xkf (xs_k hS rfl rfl : xm_k h13 302 = (11, 0))) ?_
      refine xj_ic_ge rfl hf (fun hc15 hf => ?_) (fun hc15 hf => ?_)
      · refine xw_G (pc' := 46) (st' := [.ref 302]) rfl rfl trivial ?_
        refine xw_gr rfl (xkf (xs_k hS rfl rfl : xm_k h13 302 = (11, 0))) (xs_r hS rfl) ?_
        refine xw_G (pc' := 50) (st' := [.int x3, .ref 312]) rfl rfl trivial ?_
        refine xg_e hf (fun hg16 hf => ?_)
        refine xa_ld (t := 100) (τ := 0) (v := .int (xm_i h13 312 (Int32.toNatClampNeg x3))) rfl rfl (xkf (xs_k hS rfl rfl : xm_k h13 312 = (100, 8))) (xkn (xs_k hS rfl rfl : xm_k h13 312 = (100, 8))) hg16 rfl ?_
        refine xw_G (pc' := 55) (st' := [.int (xm_i h13 312 (Int32.toNatClampNeg x3))]) rfl rfl trivial ?_
        exact xr_i (inj := xji) rfl rfl rfl rfl hf hQ hS
      · refine xw_G (pc' := 55) (st' := [.int (-1 : Int32)]) rfl rfl trivial ?_
        exact xr_i (inj := xji) rfl rfl rfl rfl hf hQ hS
  · refine xw_G (pc' := 14) (st' := [.int x3, .int v1, .ref 302]) rfl rfl trivial ?_
    refine xj_if_lt rfl hf (fun hc17 hf => ?_) (fun hc17 hf => ?_)
    · refine xw_G (pc' := 22) (st' := [.int (0 : Int32), .int v1, .ref 302]) rfl rfl trivial ?_
      refine xb_e hf (fun v18 h19 e20 hf => ?_)
      refine xw_V (v := some (.int v18)) rfl rfl (xkf (xs_k hS rfl rfl : xm_k h5 302 = (11, 0))) (Nat.le_of_ble_eq_true rfl) (Nat.le_of_ble_eq_true rfl) (xm_Rn_le (Nat.le_of_ble_eq_true rfl) (t_X11_good_  hS e20).1) ?_
      have hS := (t_X11_good_  hS e20).2
      show xm_W _ _ _ 25 _ [.int v18] _
      refine xj_if_ne rfl hf (fun hc21 hf => ?_) (fun hc21 hf => ?_)
      · refine xw_G (pc' := 29) (st' := [.int (0 : Int32)]) rfl rfl trivial ?_
        exact xr_i (inj := xji) rfl rfl rfl rfl hf hQ hS
      · refine xw_G (pc' := 31) (st' := [.ref 302]) rfl rfl trivial ?_
        refine xw_G (pc' := 32) (st' := [.int x1, .ref 302]) rfl rfl trivial ?_
        refine xw_G (pc' := 33) (st' := [.int x2, .int x1, .ref 302]) rfl rfl trivial ?_
        refine xw_G (pc' := 34) (st' := [.int (1 : Int32), .int x2, .int x1, .ref 302]) rfl rfl trivial ?_
        refine xb_e hf (fun v22 h23 e24 hf => ?_)
        refine xw_V (v := none) rfl rfl (xkf (xs_k hS rfl rfl : xm_k h19 302 = (11, 0))) (Nat.le_of_ble_eq_true rfl) (Nat.le_of_ble_eq_true rfl) (xm_Rn_le (Nat.le_of_ble_eq_true rfl) (t_X11_auction  hS e24).1) ?_
        have hS := (t_X11_auction  hS e24).2
        show xm_W _ _ _ 37 _ [] _
        refine xw_G (pc' := 38) (st' := [.int x3]) rfl rfl trivial ?_
        refine xw_G (pc' := 39) (st' := [.ref 302, .int x3]) rfl rfl trivial ?_
        refine xw_G (pc' := 42) (st' := [.int (xm_i h23 302 27), .int x3]) rfl rfl (xkf (xs_k hS rfl rfl : xm_k h23 302 = (11, 0))) ?_
        refine xj_ic_ge rfl hf (fun hc25 hf => ?_) (fun hc25 hf => ?_)
        · refine xw_G (pc' := 46) (st' := [.ref 302]) rfl rfl trivial ?_
          refine xw_gr rfl (xkf (xs_k hS rfl rfl : xm_k h23 302 = (11, 0))) (xs_r hS rfl) ?_
          refine xw_G (pc' := 50) (st' := [.int x3, .ref 312]) rfl rfl trivial ?_
          refine xg_e hf (fun hg26 hf => ?_)
          refine xa_ld (t := 100) (τ := 0) (v := .int (xm_i h23 312 (Int32.toNatClampNeg x3))) rfl rfl (xkf (xs_k hS rfl rfl : xm_k h23 312 = (100, 8))) (xkn (xs_k hS rfl rfl : xm_k h23 312 = (100, 8))) hg26 rfl ?_
          refine xw_G (pc' := 55) (st' := [.int (xm_i h23 312 (Int32.toNatClampNeg x3))]) rfl rfl trivial ?_
          exact xr_i (inj := xji) rfl rfl rfl rfl hf hQ hS
        · refine xw_G (pc' := 55) (st' := [.int (-1 : Int32)]) rfl rfl trivial ?_
          exact xr_i (inj := xji) rfl rfl rfl rfl hf hQ hS
    · refine xw_G (pc' := 18) (st' := [.int (1 : Int32), .int v1, .ref 302]) rfl rfl trivial ?_
      refine xw_G (pc' := 22) (st' := [.int (1 : Int32), .int v1, .ref 302]) rfl rfl trivial ?_
      refine xb_e hf (fun v27 h28 e29 hf => ?_)
      refine xw_V (v := some (.int v27)) rfl rfl (xkf (xs_k hS rfl rfl : xm_k h5 302 = (11, 0))) (Nat.le_of_ble_eq_true rfl) (Nat.le_of_ble_eq_true rfl) (xm_Rn_le (Nat.le_of_ble_eq_true rfl) (t_X11_good_  hS e29).1) ?_
      have hS := (t_X11_good_  hS e29).2
      show xm_W _ _ _ 25 _ [.int v27] _
      refine xj_if_ne rfl hf (fun hc30 hf => ?_) (fun hc30 hf => ?_)
      · refine xw_G (pc' := 29) (st' := [.int (0 : Int32)]) rfl rfl trivial ?_
        exact xr_i (inj := xji) rfl rfl rfl rfl hf hQ hS
      · refine xw_G (pc' := 31) (st' := [.ref 302]) rfl rfl trivial ?_
        refine xw_G (pc' := 32) (st' := [.int x1, .ref 302]) rfl rfl trivial ?_
        refine xw_G (pc' := 33) (st' := [.int x2, .int x1, .ref 302]) rfl rfl trivial ?_
        refine xw_G (pc' := 34) (st' := [.int (1 : Int32), .int x2, .int x1, .ref 302]) rfl rfl trivial ?_
        refine xb_e hf (fun v31 h32 e33 hf => ?_)
        refine xw_V (v := none) rfl rfl (xkf (xs_k hS rfl rfl : xm_k h28 302 = (11, 0))) (Nat.le_of_ble_eq_true rfl) (Nat.le_of_ble_eq_true rfl) (xm_Rn_le (Nat.le_of_ble_eq_true rfl) (t_X11_auction  hS e33).1) ?_
        have hS := (t_X11_auction  hS e33).2
        show xm_W _ _ _ 37 _ [] _
        refine xw_G (pc' := 38) (st' := [.int x3]) rfl rfl trivial ?_
        refine xw_G (pc' := 39) (st' := [.ref 302, .int x3]) rfl rfl trivial ?_
        refine xw_G (pc' := 42) (st' := [.int (xm_i h32 302 27), .int x3]) rfl rfl (xkf (xs_k hS rfl rfl : xm_k h32 302 = (11, 0))) ?_
        refine xj_ic_ge rfl hf (fun hc34 hf => ?_) (fun hc34 hf => ?_)
        · refine xw_G (pc' := 46) (st' := [.ref 302]) rfl rfl trivial ?_
          refine xw_gr rfl (xkf (xs_k hS rfl rfl : xm_k h32 302 = (11, 0))) (xs_r hS rfl) ?_
          refine xw_G (pc' := 50) (st' := [.int x3, .ref 312]) rfl rfl trivial ?_
          refine xg_e hf (fun hg35 hf => ?_)
          refine xa_ld (t := 100) (τ := 0) (v := .int (xm_i h32 312 (Int32.toNatClampNeg x3))) rfl rfl (xkf (xs_k hS rfl rfl : xm_k h32 312 = (100, 8))) (xkn (xs_k hS rfl rfl : xm_k h32 312 = (100, 8))) hg35 rfl ?_
          refine xw_G (pc' := 55) (st' := [.int (xm_i h32 312 (Int32.toNatClampNeg x3))]) rfl rfl trivial ?_
          exact xr_i (inj := xji) rfl rfl rfl rfl hf hQ hS
        · refine xw_G (pc' := 55) (st' := [.int (-1 : Int32)]) rfl rfl trivial ?_
          exact xr_i (inj := xji) rfl rfl rfl rfl hf hQ hS
def f_X10_requireSlot (ρ : Nat) (x1 : Int32) (h : xm_H) : Option ((Unit ⊕ Nat × Nat) × xm_H) := (xe (f_X10_requireRange x1 (0 : Int32) ((xm_i h ρ 3) - (1 : Int32)) h) (fun v1 h2 => (some (.inl (), h2))) (fun q4 h5 => (some (.inr q4, h5))))
theorem t_X10_requireSlot {ρ : Nat} {δ : Nat} {x1 : Int32} {h : xm_H} {w : (Unit ⊕ Nat × Nat) × xm_H}  (hS : xS ρ δ h) (hf : f_X10_requireSlot ρ x1 h = some w) : xm_Rn xX 2 127 [.ref 160, .int x1] h (xtv w.1) w.2 ∧ xS ρ δ w.2 := by
  refine xt_mk (φ := fun h => xS ρ δ h) (M := xM_X10_requireSlot) (ls := [some (.ref 160), some (.int x1)]) rfl (Nat.le_of_ble_eq_true rfl) rfl (fun Q hQ => ?_)
  unfold f_X10_requireSlot at hf
  refine xw_G (pc' := 1) (st' := [.int x1]) rfl rfl trivial ?_
  refine xw_G (pc' := 2) (st' := [.int (0 : Int32), .int x1]) rfl rfl trivial ?_
  refine xw_G (pc' := 3) (st' := [.ref 160, .int (0 : Int32), .int x1]) rfl rfl trivial ?_
  refine xw_gr rfl (xkf (xs_k hS rfl rfl : xm_k h 160 = (0, 0))) (xs_r hS rfl) ?_
  refine xw_gr rfl (xkf (xs_k hS rfl rfl : xm_k h 182 = (3, 0))) (xs_rho hS) ?_
  refine xw_G (pc' := 12) (st' := [.int (xm_i h ρ 3), .int (0 : Int32), .int x1]) rfl rfl (xkf (xsR0 hS (xs_R hS))) ?_
  refine xw_G (pc' := 13) (st' := [.int (1 : Int32), .int (xm_i h ρ 3), .int (0 : Int32), .int x1]) rfl rfl trivial ?_
  refine xw_G (pc' := 14) (st' := [.int ((xm_i h ρ 3) - (1 : Int32)), .int (0 : Int32), .int x1]) rfl rfl trivial ?_
  refine xe_e hf (fun v1 h2 e3 hf => ?_) (fun q4 h5 e3 hf => ?_)
  · refine xw_S (v := none) rfl (Nat.le_of_ble_eq_true rfl) (Nat.le_of_ble_eq_true rfl) (xm_Rn_le (Nat.le_of_ble_eq_true rfl) (t_X10_requireRange  hS e3).1) ?_
    have hS := (t_X10_requireRange  hS e3).2
    show xm_W _ _ _ 17 _ [] _
    exact xr_v (inj := xtv) rfl rfl hf hQ hS
  · refine xw_SX (x := q4) rfl (Nat.le_of_ble_eq_true rfl) (Nat.le_of_ble_eq_true rfl) (xm_Rn_le (Nat.le_of_ble_eq_true rfl) (t_X10_requireRange  hS e3).1) rfl ?_
    have hS := (t_X10_requireRange  hS e3).2
    exact xr_x (inj := xtv) rfl hf hQ hS
def f_X2_basePrice (x1 : Int32) (x2 : Int32) (h : xm_H) : Option (Int32 × xm_H) := (if (x1 + (1 : Int32)) < (xm_i h 182 6) then (if xin (x1 + (1 : Int32)) 8 then (if xin (xm_i h 217 (Int32.toNatClampNeg (x1 + (1 : Int32)))) 8 then (some (if x2 < (xm_i h 216 (Int32.toNatClampNeg (xm_i h 217 (Int32.toNatClampNeg (x1 + (1 : Int32)))))) then (xm_i h 216 (Int32.toNatClampNeg (xm_i h 217 (Int32.toNatClampNeg (x1 + (1 : Int32)))))) else x2, h)) else none) else none) else (some (if x2 < (0 : Int32) then (0 : Int32) else x2, h)))
theorem t_X2_basePrice {ρ : Nat} {δ : Nat} {x1 : Int32} {x2 : Int32} {h : xm_H} {w : Int32 × xm_H}  (hS : xS ρ δ h) (hf : f_X2_basePrice x1 x2 h = some w) : xm_Rn xX 1 18 [.ref 182, .int x1, .int x2] h (xji w.1) w.2 ∧ xS ρ δ w.2 := by
  refine xt_mk (φ := fun h => xS ρ δ h) (M := xM_X2_basePrice) (ls := [some (.ref 182), some (.int x1), some (.int x2), none]) rfl (Nat.le_of_ble_eq_true rfl) rfl (fun Q hQ => ?_)
  unfold f_X2_basePrice at hf
  refine xw_G (pc' := 1) (st' := [.int x1]) rfl rfl trivial ?_
  refine xw_G (pc' := 2) (st' := [.int (1 : Int32), .int x1]) rfl rfl trivial ?_
  refine xw_G (pc' := 3) (st' := [.int (x1 + (1 : Int32))]) rfl rfl trivial ?_
  refine xw_G (pc' := 4) (st' := [.ref 182, .int (x1 + (1 : Int32))]) rfl rfl trivial ?_
  refine xw_G (pc' := 7) (st' := [.int (xm_i h 182 6), .int (x1 + (1 : Int32))]) rfl rfl (xkf (xs_k hS rfl rfl : xm_k h 182 = (3, 0))) ?_
  refine xj_ic_ge rfl hf (fun hc1 hf => ?_) (fun hc1 hf => ?_)
  · refine xw_G (pc' := 11) (st' := [.ref 182]) rfl rfl trivial ?_
    refine xw_gr rfl (xkf (xs_k hS rfl rfl : xm_k h 182 = (3, 0))) (xs_r hS rfl) ?_
    refine xw_G (pc' := 15) (st' := [.ref 182, .ref 216]) rfl rfl trivial ?_
    refine xw_gr rfl (xkf (xs_k hS rfl rfl : xm_k h 182 = (3, 0))) (xs_r hS rfl) ?_
    refine xw_G (pc' := 19) (st' := [.int x1, .ref 217, .ref 216]) rfl rfl trivial ?_
    refine xw_G (pc' := 20) (st' := [.int (1 : Int32), .int x1, .ref 217, .ref 216]) rfl rfl trivial ?_
    refine xw_G (pc' := 21) (st' := [.int (x1 + (1 : Int32)), .ref 217, .ref 216]) rfl rfl trivial ?_
    refine xg_e hf (fun hg2 hf => ?_)
    refine xa_ld (t := 100) (τ := 0) (v := .int (xm_i h 217 (Int32.toNatClampNeg (x1 + (1 : Int32))))) rfl rfl (xkf (xs_k hS rfl rfl : xm_k h 217 = (100, 8))) (xkn (xs_k hS rfl rfl : xm_k h 217 = (100, 8))) hg2 rfl ?_
    refine xg_e hf (fun hg3 hf => ?_)
    refine xa_ld (t := 100) (τ := 0) (v := .int (xm_i h 216 (Int32.toNatClampNeg (xm_i h 217 (Int32.toNatClampNeg (x1 + (1 : Int32))))))) rfl rfl (xkf (xs_k hS rfl rfl : xm_k h 216 = (100, 8))) (xkn (xs_k hS rfl rfl : xm_k h 216 = (100, 8))) hg3 rfl ?_
    refine xw_G (pc' := 27) (st' := [.int (xm_i h 216 (Int32.toNatClampNeg (xm_i h 217 (Int32.toNatClampNeg (x1 + (1 : Int32))))))]) rfl rfl trivial ?_
    refine xw_G (pc' := 28) (ls' := [some (.ref 182), some (.int x1), some (.int x2), some (.int (xm_i h 216 (Int32.toNatClampNeg (xm_i h 217 (Int32.toNatClampNeg (x1 + (1 : Int32)))))))]) (st' := []) rfl rfl (Nat.le_of_ble_eq_true rfl) ?_
    refine xw_G (pc' := 29) (st' := [.int x2]) rfl rfl trivial ?_
    refine xw_G (pc' := 30) (st' := [.int (xm_i h 216 (Int32.toNatClampNeg (xm_i h 217 (Int32.toNatClampNeg (x1 + (1 : Int32)))))), .int x2]) rfl rfl trivial ?_
    refine xw_max rfl (Nat.le_of_ble_eq_true rfl) ?_
    exact xr_i (inj := xji) rfl rfl rfl rfl hf hQ hS
  · refine xw_G (pc' := 27) (st' := [.int (0 : Int32)]) rfl rfl trivial ?_
    refine xw_G (pc' := 28) (ls' := [some (.ref 182), some (.int x1), some (.int x2), some (.int (0 : Int32))]) (st' := []) rfl rfl (Nat.le_of_ble_eq_true rfl) ?_
    refine xw_G (pc' := 29) (st' := [.int x2]) rfl rfl trivial ?_
    refine xw_G (pc' := 30) (st' := [.int (0 : Int32), .int x2]) rfl rfl trivial ?_
    refine xw_max rfl (Nat.le_of_ble_eq_true rfl) ?_
    exact xr_i (inj := xji) rfl rfl rfl rfl hf hQ hS
def f_X2_fill_10B (N : Nat) (ρ : Nat) (c1 : Int32) (c2 : Int32) (rec : Int32 → Int32 → xm_H → Option (Unit × xm_H)) (c3 : Int32) (c4 : Int32) (h : xm_H) : Option (Unit × xm_H) := (if c4 < (xm_i h 182 6) then (if (xm_i h 182 9) < c1 then (if xin c4 8 then (if xin (xm_i h 217 (Int32.toNatClampNeg c4)) 8 then (if (xm_i h 216 (Int32.toNatClampNeg (xm_i h 217 (Int32.toNatClampNeg c4)))) < c2 then (some ((), h)) else (if ((xm_i h (ρ + 10 + Int32.toNatClampNeg (xm_i h 217 (Int32.toNatClampNeg c4))) 7) &&& c3) = 0 then (if xin (xm_i h 182 9) 4 then (xl (xm_si h 218 (Int32.toNatClampNeg (xm_i h 182 9)) (xm_i h 217 (Int32.toNatClampNeg c4))) fun h8 => (xb (f_X2_basePrice c4 c2 h8) fun v10 h11 => (if xin (xm_i h11 182 9) 4 then (xb (f_X2_perCent v10 (xm_i h11 (ρ + 1) (Int32.toNatClampNeg (xm_i h11 182 9))) h11) fun v14 h15 => (if xin (xm_i h8 182 9) 4 then (xl (xm_si h15 219 (Int32.toNatClampNeg (xm_i h8 182 9)) v14) fun h18 => (xl (xm_si h18 182 9 ((xm_i h18 182 9) + (1 : Int32))) fun h20 => (rec (c3 ||| ((1 : Int32) <<< ((xm_i h 217 (Int32.toNatClampNeg c4)) &&& 31))) (c4 + (1 : Int32)) h20))) else none)) else none))) else none) else (rec c3 (c4 + (1 : Int32)) h))) else none) else none) else (some ((), h))) else (some ((), h)))
def f_X2_fill_10 (N : Nat) (ρ : Nat) (c1 : Int32) (c2 : Int32) : Nat → Int32 → Int32 → xm_H → Option (Unit × xm_H)
  | 0 => fun _ _ _ => none
  | n + 1 => fun c3 c4 h => f_X2_fill_10B N ρ c1 c2 (f_X2_fill_10 N ρ c1 c2 n) c3 c4 h
def f_X2_fill (N : Nat) (ρ : Nat) (x1 : Int32) (x2 : Int32) (h : xm_H) : Option (Unit × xm_H) := (xl (xm_si h 182 9 (0 : Int32)) fun h1 => (f_X2_fill_10 N ρ x1 x2 N (0 : Int32) (0 : Int32) h1))
theorem tl_X2_fill_10 {δ : Nat} {N : Nat} {ρ : Nat} {c1 : Int32} {c2 : Int32} {Q : xm_O → xm_H → Prop} {w : Unit × xm_H}  (hQ : xS ρ δ w.2 → Q (xjv w.1) w.2)  : ∀ (n : Nat) (c3 : Int32) (c4 : Int32) (h : xm_H), xS ρ δ h → f_X2_fill_10 N ρ c1 c2 n c3 c4 h = some w → xm_W (xm_Rn xX 1) xM_X2_fill Q 10 [some (.ref 182), some (.int c1), some (.int c2), some (.int c3), some (.int c4), none] [] h := by
  intro n
  induction n with
  | zero =>
    intro c3 c4 h hS hf
    exact (xn_e hf).elim
  | succ n ih =>
    intro c3 c4 h hS hf
    replace hf : f_X2_fill_10B N ρ c1 c2 (f_X2_fill_10 N ρ c1 c2 n) c3 c4 h = some w := hf
    unfold f_X2_fill_10B at hf
    refine xw_K (pc' := 12) (ls' := [some (.ref 182), some (.int c1), some (.int c2), some (.int c3), some (.int c4), none]) (st' := [.int c4]) rfl rfl trivial ?_
    refine xw_G (pc' := 13) (st' := [.ref 182, .int c4]) rfl rfl trivial ?_
    refine xw_G (pc' := 16) (st' := [.int (xm_i h 182 6), .int c4]) rfl rfl (xkf (xs_k hS rfl rfl : xm_k h 182 = (3, 0))) ?_
    refine xj_ic_ge rfl hf (fun hc1 hf => ?_) (fun hc1 hf => ?_)
    · refine xw_G (pc' := 20) (st' := [.ref 182]) rfl rfl trivial ?_
      refine xw_G (pc' := 23) (st' := [.int (xm_i h 182 9)]) rfl rfl (xkf (xs_k hS rfl rfl : xm_k h 182 = (3, 0))) ?_
      refine xw_G (pc' := 24) (st' := [.int c1, .int (xm_i h 182 9)]) rfl rfl trivial ?_
      refine xj_ic_ge rfl hf (fun hc2 hf => ?_) (fun hc2 hf => ?_)
      · refine xw_G (pc' := 28) (st' := [.ref 182]) rfl rfl trivial ?_
        refine xw_gr rfl (xkf (xs_k hS rfl rfl : xm_k h 182 = (3, 0))) (xs_r hS rfl) ?_
        refine xw_G (pc' := 33) (st' := [.int c4, .ref 217]) rfl rfl trivial ?_
        refine xg_e hf (fun hg3 hf => ?_)
        refine xa_ld (t := 100) (τ := 0) (v := .int (xm_i h 217 (Int32.toNatClampNeg c4))) rfl rfl (xkf (xs_k hS rfl rfl : xm_k h 217 = (100, 8))) (xkn (xs_k hS rfl rfl : xm_k h 217 = (100, 8))) hg3 rfl ?_
        refine xw_G (pc' := 36) (ls' := [some (.ref 182), some (.int c1), some (.int c2), some (.int c3), some (.int c4), some (.int (xm_i h 217 (Int32.toNatClampNeg c4)))]) (st' := []) rfl rfl (Nat.le_of_ble_eq_true rfl) ?_
        refine xw_G (pc' := 37) (st' := [.ref 182]) rfl rfl trivial ?_
        refine xw_gr rfl (xkf (xs_k hS rfl rfl : xm_k h 182 = (3, 0))) (xs_r hS rfl) ?_
        refine xw_G (pc' := 42) (st' := [.int (xm_i h 217 (Int32.toNatClampNeg c4)), .ref 216]) rfl rfl trivial ?_
        refine xg_e hf (fun hg4 hf => ?_)
        refine xa_ld (t := 100) (τ := 0) (v := .int (xm_i h 216 (Int32.toNatClampNeg (xm_i h 217 (Int32.toNatClampNeg c4))))) rfl rfl (xkf (xs_k hS rfl rfl : xm_k h 216 = (100, 8))) (xkn (xs_k hS rfl rfl : xm_k h 216 = (100, 8))) hg4 rfl ?_
        refine xw_G (pc' := 44) (st' := [.int c2, .int (xm_i h 216 (Int32.toNatClampNeg (xm_i h 217 (Int32.toNatClampNeg c4))))]) rfl rfl trivial ?_
        refine xj_ic_ge rfl hf (fun hc5 hf => ?_) (fun hc5 hf => ?_)
        · refine xw_G (pc' := 133) (st' := []) rfl rfl trivial ?_
          exact xr_v (inj := xjv) rfl rfl hf hQ hS
        · refine xw_G (pc' := 51) (st' := [.ref 182]) rfl rfl trivial ?_
          refine xw_gr rfl (xkf (xs_k hS rfl rfl : xm_k h 182 = (3, 0))) (xs_rho hS) ?_
          refine xw_gr rfl (xkf (xsR0 hS (xs_R hS))) (xsRr6 hS (xs_R hS)) ?_
          refine xw_G (pc' := 59) (st' := [.int (xm_i h 217 (Int32.toNatClampNeg c4)), .ref (ρ + 9)]) rfl rfl trivial ?_
          refine xa_ar (b := (ρ + 10 + Int32.toNatClampNeg (xm_i h 217 (Int32.toNatClampNeg c4)))) rfl (xkf (xsR9 hS (xs_R hS))) (xkn (xsR9 hS (xs_R hS))) hg4 (xsCam hS (xs_R hS) hg4) ?_
          refine xw_G (pc' := 63) (st' := [.int (xm_i h (ρ + 10 + Int32.toNatClampNeg (xm_i h 217 (Int32.toNatClampNeg c4))) 7)]) rfl rfl (xkf (xsC hS (xIsC_mk (j := (xm_i h 217 (Int32.toNatClampNeg c4))) (xs_R hS) hg4))) ?_
          refine xw_G (pc' := 64) (st' := [.int c3, .int (xm_i h (ρ + 10 + Int32.toNatClampNeg (xm_i h 217 (Int32.toNatClampNeg c4))) 7)]) rfl rfl trivial ?_
          refine xw_G (pc' := 65) (st' := [.int ((xm_i h (ρ + 10 + Int32.toNatClampNeg (xm_i h 217 (Int32.toNatClampNeg c4))) 7) &&& c3)]) rfl rfl trivial ?_
          refine xj_if_ne rfl hf (fun hc6 hf => ?_) (fun hc6 hf => ?_)
          · refine xw_G (pc' := 69) (st' := [.int c3]) rfl rfl trivial ?_
            refine xw_G (pc' := 70) (st' := [.int (1 : Int32), .int c3]) rfl rfl trivial ?_
            refine xw_G (pc' := 72) (st' := [.int (xm_i h 217 (Int32.toNatClampNeg c4)), .int (1 : Int32), .int c3]) rfl rfl trivial ?_
            refine xw_G (pc' := 73) (st' := [.int ((1 : Int32) <<< ((xm_i h 217 (Int32.toNatClampNeg c4)) &&& 31)), .int c3]) rfl rfl trivial ?_
            refine xw_G (pc' := 74) (st' := [.int (c3 ||| ((1 : Int32) <<< ((xm_i h 217 (Int32.toNatClampNeg c4)) &&& 31)))]) rfl rfl trivial ?_
            refine xw_G (pc' := 75) (ls' := [some (.ref 182), some (.int c1), some (.int c2), some (.int (c3 ||| ((1 : Int32) <<< ((xm_i h 217 (Int32.toNatClampNeg c4)) &&& 31)))), some (.int c4), some (.int (xm_i h 217 (Int32.toNatClampNeg c4)))]) (st' := []) rfl rfl (Nat.le_of_ble_eq_true rfl) ?_
            refine xw_G (pc' := 76) (st' := [.ref 182]) rfl rfl trivial ?_
            refine xw_gr rfl (xkf (xs_k hS rfl rfl : xm_k h 182 = (3, 0))) (xs_r hS rfl) ?_
            refine xw_G (pc' := 80) (st' := [.ref 182, .ref 218]) rfl rfl trivial ?_
            refine xw_G (pc' := 83) (st' := [.int (xm_i h 182 9), .ref 218]) rfl rfl (xkf (xs_k hS rfl rfl : xm_k h 182 = (3, 0))) ?_
            refine xw_G (pc' := 85) (st' := [.int (xm_i h 217 (Int32.toNatClampNeg c4)), .int (xm_i h 182 9), .ref 218]) rfl rfl trivial ?_
            refine xg_e hf (fun hg7 hf => ?_)
            refine xa_i rfl (xkf (xs_k hS rfl rfl : xm_k h 218 = (100, 4))) (xkn (xs_k hS rfl rfl : xm_k h 218 = (100, 4))) hg7 (Nat.le_of_ble_eq_true rfl) hf (fun h8 e9 hf => ?_)
            have hS := xS_si hS e9
            refine xw_G (pc' := 87) (st' := [.ref 182]) rfl rfl trivial ?_
            refine xw_gr rfl (xkf (xs_k hS rfl rfl : xm_k h8 182 = (3, 0))) (xs_r hS rfl) ?_
            refine xw_G (pc' := 91) (st' := [.ref 182, .ref 219]) rfl rfl trivial ?_
            refine xw_G (pc' := 94) (st' := [.int (xm_i h8 182 9), .ref 219]) rfl rfl (xkf (xs_k hS rfl rfl : xm_k h8 182 = (3, 0))) ?_
            refine xw_G (pc' := 95) (st' := [.ref 182, .int (xm_i h8 182 9), .ref 219]) rfl rfl trivial ?_
            refine xw_G (pc' := 97) (st' := [.int c4, .ref 182, .int (xm_i h8 182 9), .ref 219]) rfl rfl trivial ?_
            refine xw_G (pc' := 98) (st' := [.int c2, .int c4, .ref 182, .int (xm_i h8 182 9), .ref 219]) rfl rfl trivial ?_
            refine xb_e hf (fun v10 h11 e12 hf => ?_)
            refine xw_V (v := some (.int v10)) rfl rfl (xkf (xs_k hS rfl rfl : xm_k h8 182 = (3, 0))) (Nat.le_of_ble_eq_true rfl) (Nat.le_of_ble_eq_true rfl) (xm_Rn_le (Nat.le_of_ble_eq_true rfl) (t_X2_basePrice  hS e12).1) ?_
            have hS := (t_X2_basePrice  hS e12).2
            show xm_W _ _ _ 101 _ [.int v10, .int (xm_i h8 182 9), .ref 219] _
            refine xw_G (pc' := 102) (st' := [.ref 182, .int v10, .int (xm_i h8 182 9), .ref 219]) rfl rfl trivial ?_
            refine xw_gr rfl (xkf (xs_k hS rfl rfl : xm_k h11 182 = (3, 0))) (xs_rho hS) ?_
            refine xw_gr rfl (xkf (xsR0 hS (xs_R hS))) (xsRr2 hS (xs_R hS)) ?_
            refine xw_G (pc' := 109) (st' := [.ref 182, .ref (ρ + 1), .int v10, .int (xm_i h8 182 9), .ref 219]) rfl rfl trivial ?_
            refine xw_G (pc' := 112) (st' := [.int (xm_i h11 182 9), .ref (ρ + 1), .int v10, .int (xm_i h8 182 9), .ref 219]) rfl rfl (xkf (xs_k hS rfl rfl : xm_k h11 182 = (3, 0))) ?_
            refine xg_e hf (fun hg13 hf => ?_)
            refine xa_ld (t := 100) (τ := 0) (v := .int (xm_i h11 (ρ + 1) (Int32.toNatClampNeg (xm_i h11 182 9)))) rfl rfl (xkf (xsR1 hS (xs_R hS))) (xkn (xsR1 hS (xs_R hS))) hg13 rfl ?_
            refine xb_e hf (fun v14 h15 e16 hf => ?_)
            refine xw_S (v := some (.int v14)) rfl (Nat.le_of_ble_eq_true rfl) (Nat.le_of_ble_eq_true rfl) (xm_Rn_le (Nat.le_of_ble_eq_true rfl) (t_X2_perCent  hS e16).1) ?_
            have hS := (t_X2_perCent  hS e16).2
            show xm_W _ _ _ 116 _ [.int v14, .int (xm_i h8 182 9), .ref 219] _
            refine xg_e hf (fun hg17 hf => ?_)
            refine xa_i rfl (xkf (xs_k hS rfl rfl : xm_k h15 219 = (100, 4))) (xkn (xs_k hS rfl rfl : xm_k h15 219 = (100, 4))) hg17 (Nat.le_of_ble_eq_true rfl) hf (fun h18 e19 hf => ?_)
            have hS := xS_si hS e19
            refine xw_G (pc' := 118) (st' := [.ref 182]) rfl rfl trivial ?_
            refine xw_G (pc' := 119) (st' := [.ref 182, .ref 182]) rfl rfl rfl ?_
            refine xw_G (pc' := 122) (st' := [.int (xm_i h18 182 9), .ref 182]) rfl rfl (xkf (xs_k hS rfl rfl : xm_k h18 182 = (3, 0))) ?_
            refine xw_G (pc' := 123) (st' := [.int (1 : Int32), .int (xm_i h18 182 9), .ref 182]) rfl rfl trivial ?_
            refine xw_G (pc' := 124) (st' := [.int ((xm_i h18 182 9) + (1 : Int32)), .ref 182]) rfl rfl trivial ?_
            refine xp_i rfl (xkf (xs_k hS rfl rfl : xm_k h18 182 = (3, 0))) (Nat.le_of_ble_eq_true rfl) hf (fun h20 e21 hf => ?_)
            have hS := xS_si hS e21
            refine xw_G (pc' := 130) (ls' := [some (.ref 182), some (.int c1), some (.int c2), some (.int (c3 ||| ((1 : Int32) <<< ((xm_i h 217 (Int32.toNatClampNeg c4)) &&& 31)))), some (.int (c4 + (1 : Int32))), some (.int (xm_i h 217 (Int32.toNatClampNeg c4)))]) (st' := []) rfl rfl (Nat.le_of_ble_eq_true rfl) ?_
            refine xw_G (pc' := 10) (st' := []) rfl rfl trivial ?_
            refine xw_M rfl rfl ?_
            exact ih _ _ _ hS hf
          · refine xw_G (pc' := 130) (ls' := [some (.ref 182), some (.int c1), some (.int c2), some (.int c3), some (.int (c4 + (1 : Int32))), some (.int (xm_i h 217 (Int32.toNatClampNeg c4)))]) (st' := []) rfl rfl (Nat.le_of_ble_eq_true rfl) ?_
            refine xw_G (pc' := 10) (st' := []) rfl rfl trivial ?_
            refine xw_M rfl rfl ?_
            exact ih _ _ _ hS hf
      · exact xr_v (inj := xjv) rfl rfl hf hQ hS
    · exact xr_v (inj := xjv) rfl rfl hf hQ hS
theorem t_X2_fill {N : Nat} {ρ : Nat} {δ : Nat} {x1 : Int32} {x2 : Int32} {h : xm_H} {w : Unit × xm_H}  (hS : xS ρ δ h) (hf : f_X2_fill N ρ x1 x2 h = some w) : xm_Rn xX 2 17 [.ref 182, .int x1, .int x2] h (xjv w.1) w.2 ∧ xS ρ δ w.2 := by
  refine xt_mk (φ := fun h => xS ρ δ h) (M := xM_X2_fill) (ls := [some (.ref 182), some (.int x1), some (.int x2), none, none, none]) rfl (Nat.le_of_ble_eq_true rfl) rfl (fun Q hQ => ?_)
  unfold f_X2_fill at hf
  refine xw_G (pc' := 1) (st' := [.ref 182]) rfl rfl trivial ?_
  refine xw_G (pc' := 2) (st' := [.int (0 : Int32), .ref 182]) rfl rfl trivial ?_
  refine xp_i rfl (xkf (xs_k hS rfl rfl : xm_k h 182 = (3, 0))) (Nat.le_of_ble_eq_true rfl) hf (fun h1 e2 hf => ?_)
  have hS := xS_si hS e2
  refine xw_G (pc' := 6) (st' := [.int (0 : Int32)]) rfl rfl trivial ?_
  refine xw_G (pc' := 7) (ls' := [some (.ref 182), some (.int x1), some (.int x2), some (.int (0 : Int32)), none, none]) (st' := []) rfl rfl (Nat.le_of_ble_eq_true rfl) ?_
  refine xw_G (pc' := 8) (st' := [.int (0 : Int32)]) rfl rfl trivial ?_
  refine xw_G (pc' := 10) (ls' := [some (.ref 182), some (.int x1), some (.int x2), some (.int (0 : Int32)), some (.int (0 : Int32)), none]) (st' := []) rfl rfl (Nat.le_of_ble_eq_true rfl) ?_
  refine xw_M rfl rfl ?_
  refine tl_X2_fill_10  hQ  _ _ _ _ hS hf
def f_X10_winner (N : Nat) (ρ : Nat) (x1 : Int32) (x2 : Int32) (x3 : Int32) (h : xm_H) : Option ((Int32 ⊕ Nat × Nat) × xm_H) := (xe (f_X10_requireTag ρ x2 h) (fun v1 h2 => (xe (f_X10_requireUser x1 h2) (fun v4 h5 => (xe (f_X10_requireSlot ρ x3 h5) (fun v7 h8 => (if xin x2 6 then (xb (f_X2_rank N ρ x1 x2 (xm_i h8 202 (Int32.toNatClampNeg x2)) h8) fun v11 h12 => (xb (f_X2_fill N ρ (x3 + (1 : Int32)) (xm_i h12 202 (Int32.toNatClampNeg x2)) h12) fun v14 h15 => (if x3 < (xm_i h15 182 9) then (if xin x3 4 then (some (.inl (xm_i h15 218 (Int32.toNatClampNeg x3)), h15)) else none) else (some (.inl (-1 : Int32), h15))))) else none)) (fun q19 h20 => (some (.inr q19, h20))))) (fun q22 h23 => (some (.inr q22, h23))))) (fun q25 h26 => (some (.inr q25, h26))))
theorem t_X10_winner {N : Nat} {ρ : Nat} {δ : Nat} {x1 : Int32} {x2 : Int32} {x3 : Int32} {h : xm_H} {w : (Int32 ⊕ Nat × Nat) × xm_H}  (hS : xS ρ δ h) (hf : f_X10_winner N ρ x1 x2 x3 h = some w) : xm_Rn xX 4 91 [.ref 160, .int x1, .int x2, .int x3] h (xti w.1) w.2 ∧ xS ρ δ w.2 := by
  refine xt_mk (φ := fun h => xS ρ δ h) (M := xM_X10_winner) (ls := [some (.ref 160), some (.int x1), some (.int x2), some (.int x3)]) rfl (Nat.le_of_ble_eq_true rfl) rfl (fun Q hQ => ?_)
  unfold f_X10_winner at hf
  refine xw_G (pc' := 1) (st' := [.ref 160]) rfl rfl trivial ?_
  refine xw_G (pc' := 2) (st' := [.int x2, .ref 160]) rfl rfl trivial ?_
  refine xe_e hf (fun v1 h2 e3 hf => ?_) (fun q25 h26 e3 hf => ?_)
  · refine xw_V (v := none) rfl rfl (xkf (xs_k hS rfl rfl : xm_k h 160 = (0, 0))) (Nat.le_of_ble_eq_true rfl) (Nat.le_of_ble_eq_true rfl) (xm_Rn_le (Nat.le_of_ble_eq_true rfl) (t_X10_requireTag  hS e3).1) ?_
    have hS := (t_X10_requireTag  hS e3).2
    show xm_W _ _ _ 5 _ [] _
    refine xw_G (pc' := 6) (st' := [.int x1]) rfl rfl trivial ?_
    refine xe_e hf (fun v4 h5 e6 hf => ?_) (fun q22 h23 e6 hf => ?_)
    · refine xw_S (v := none) rfl (Nat.le_of_ble_eq_true rfl) (Nat.le_of_ble_eq_true rfl) (xm_Rn_le (Nat.le_of_ble_eq_true rfl) (t_X10_requireUser  hS e6).1) ?_
      have hS := (t_X10_requireUser  hS e6).2
      show xm_W _ _ _ 9 _ [] _
      refine xw_G (pc' := 10) (st' := [.ref 160]) rfl rfl trivial ?_
      refine xw_G (pc' := 11) (st' := [.int x3, .ref 160]) rfl rfl trivial ?_
      refine xe_e hf (fun v7 h8 e9 hf => ?_) (fun q19 h20 e9 hf => ?_)
      · refine xw_V (v := none) rfl rfl (xkf (xs_k hS rfl rfl : xm_k h5 160 = (0, 0))) (Nat.le_of_ble_eq_true rfl) (Nat.le_of_ble_eq_true rfl) (xm_Rn_le (Nat.le_of_ble_eq_true rfl) (t_X10_requireSlot  hS e9).1) ?_
        have hS := (t_X10_requireSlot  hS e9).2
        show xm_W _ _ _ 14 _ [] _
        refine xw_G (pc' := 15) (st' := [.ref 160]) rfl rfl trivial ?_
        refine xw_gr rfl (xkf (xs_k hS rfl rfl : xm_k h8 160 = (0, 0))) (xs_r hS rfl) ?_
        refine xw_G (pc' := 19) (st' := [.int x1, .ref 182]) rfl rfl trivial ?_
        refine xw_G (pc' := 20) (st' := [.int x2, .int x1, .ref 182]) rfl rfl trivial ?_
        refine xw_G (pc' := 21) (st' := [.ref 160, .int x2, .int x1, .ref 182]) rfl rfl trivial ?_
        refine xw_gr rfl (xkf (xs_k hS rfl rfl : xm_k h8 160 = (0, 0))) (xs_r hS rfl) ?_
        refine xw_gr rfl (xkf (xs_k hS rfl rfl : xm_k h8 182 = (3, 0))) (xs_r hS rfl) ?_
        refine xw_gr rfl (xkf (xs_k hS rfl rfl : xm_k h8 201 = (8, 0))) (xs_r hS rfl) ?_
        refine xw_G (pc' := 31) (st' := [.int x2, .ref 202, .int x2, .int x1, .ref 182]) rfl rfl trivial ?_
        refine xg_e hf (fun hg10 hf => ?_)
        refine xa_ld (t := 100) (τ := 0) (v := .int (xm_i h8 202 (Int32.toNatClampNeg x2))) rfl rfl (xkf (xs_k hS rfl rfl : xm_k h8 202 = (100, 6))) (xkn (xs_k hS rfl rfl : xm_k h8 202 = (100, 6))) hg10 rfl ?_
        refine xb_e hf (fun v11 h12 e13 hf => ?_)
        refine xw_V (v := none) rfl rfl (xkf (xs_k hS rfl rfl : xm_k h8 182 = (3, 0))) (Nat.le_of_ble_eq_true rfl) (Nat.le_of_ble_eq_true rfl) (xm_Rn_le (Nat.le_of_ble_eq_true rfl) (t_X2_rank  hS e13).1) ?_
        have hS := (t_X2_rank  hS e13).2
        show xm_W _ _ _ 35 _ [] _
        refine xw_G (pc' := 36) (st' := [.ref 160]) rfl rfl trivial ?_
        refine xw_gr rfl (xkf (xs_k hS rfl rfl : xm_k h12 160 = (0, 0))) (xs_r hS rfl) ?_
        refine xw_G (pc' := 40) (st' := [.int x3, .ref 182]) rfl rfl trivial ?_
        refine xw_G (pc' := 41) (st' := [.int (1 : Int32), .int x3, .ref 182]) rfl rfl trivial ?_
        refine xw_G (pc' := 42) (st' := [.int (x3 + (1 : Int32)), .ref 182]) rfl rfl trivial ?_
        refine xw_G (pc' := 43) (st' := [.ref 160, .int (x3 + (1 : Int32)), .ref 182]) rfl rfl trivial ?_
        refine xw_gr rfl (xkf (xs_k hS rfl rfl : xm_k h12 160 = (0, 0))) (xs_r hS rfl) ?_
        refine xw_gr rfl (xkf (xs_k hS rfl rfl : xm_k h12 182 = (3, 0))) (xs_r hS rfl) ?_
        refine xw_gr rfl (xkf (xs_k hS rfl rfl : xm_k h12 201 = (8, 0))) (xs_r hS rfl) ?_
        refine xw_G (pc' := 53) (st' := [.int x2, .ref 202, .int (x3 + (1 : Int32)), .ref 182]) rfl rfl trivial ?_
        refine xa_ld (t := 100) (τ := 0) (v := .int (xm_i h12 202 (Int32.toNatClampNeg x2))) rfl rfl (xkf (xs_k hS rfl rfl : xm_k h12 202 = (100, 6))) (xkn (xs_k hS rfl rfl : xm_k h12 202 = (100, 6))) hg10 rfl ?_
        refine xb_e hf (fun v14 h15 e16 hf => ?_)
        refine xw_V (v := none) rfl rfl (xkf (xs_k hS rfl rfl : xm_k h12 182 = (3, 0))) (Nat.le_of_ble_eq_true rfl) (Nat.le_of_ble_eq_true rfl) (xm_Rn_le (Nat.le_of_ble_eq_true rfl) (t_X2_fill  hS e16).1) ?_
        have hS := (t_X2_fill  hS e16).2
        show xm_W _ _ _ 57 _ [] _
        refine xw_G (pc' := 58) (st' := [.int x3]) rfl rfl trivial ?_
        refine xw_G (pc' := 59) (st' := [.ref 160, .int x3]) rfl rfl trivial ?_
        refine xw_gr rfl (xkf (xs_k hS rfl rfl : xm_k h15 160 = (0, 0))) (xs_r hS rfl) ?_
        refine xw_G (pc' := 65) (st' := [.int (xm_i h15 182 9), .int x3]) rfl rfl (xkf (xs_k hS rfl rfl : xm_k h15 182 = (3, 0))) ?_
        refine xj_ic_ge rfl hf (fun hc17 hf => ?_) (fun hc17 hf => ?_)
        · refine xw_G (pc' := 69) (st' := [.ref 160]) rfl rfl trivial ?_
          refine xw_gr rfl (xkf (xs_k hS rfl rfl : xm_k h15 160 = (0, 0))) (xs_r hS rfl) ?_
          refine xw_gr rfl (xkf (xs_k hS rfl rfl : xm_k h15 182 = (3, 0))) (xs_r hS rfl) ?_
          refine xw_G (pc' := 76) (st' := [.int x3, .ref 218]) rfl rfl trivial ?_
          refine xg_e hf (fun hg18 hf => ?_)
          refine xa_ld (t := 100) (τ := 0) (v := .int (xm_i h15 218 (Int32.toNatClampNeg x3))) rfl rfl (xkf (xs_k hS rfl rfl : xm_k h15 218 = (100, 4))) (xkn (xs_k hS rfl rfl : xm_k h15 218 = (100, 4))) hg18 rfl ?_
          refine xw_G (pc' := 81) (st' := [.int (xm_i h15 218 (Int32.toNatClampNeg x3))]) rfl rfl trivial ?_
          exact xr_i (inj := xti) rfl rfl rfl rfl hf hQ hS
        · refine xw_G (pc' := 81) (st' := [.int (-1 : Int32)]) rfl rfl trivial ?_
          exact xr_i (inj := xti) rfl rfl rfl rfl hf hQ hS
      · refine xw_VX (x := q19) rfl rfl (xkf (xs_k hS rfl rfl : xm_k h5 160 = (0, 0))) (Nat.le_of_ble_eq_true rfl) (Nat.le_of_ble_eq_true rfl) (xm_Rn_le (Nat.le_of_ble_eq_true rfl) (t_X10_requireSlot  hS e9).1) rfl ?_
        have hS := (t_X10_requireSlot  hS e9).2
        exact xr_x (inj := xti) rfl hf hQ hS
    · refine xw_SX (x := q22) rfl (Nat.le_of_ble_eq_true rfl) (Nat.le_of_ble_eq_true rfl) (xm_Rn_le (Nat.le_of_ble_eq_true rfl) (t_X10_requireUser  hS e6).1) rfl ?_
      have hS := (t_X10_requireUser  hS e6).2
      exact xr_x (inj := xti) rfl hf hQ hS
  · refine xw_VX (x := q25) rfl rfl (xkf (xs_k hS rfl rfl : xm_k h 160 = (0, 0))) (Nat.le_of_ble_eq_true rfl) (Nat.le_of_ble_eq_true rfl) (xm_Rn_le (Nat.le_of_ble_eq_true rfl) (t_X10_requireTag  hS e3).1) rfl ?_
    have hS := (t_X10_requireTag  hS e3).2
    exact xr_x (inj := xti) rfl hf hQ hS
def f_L_winner (N : Nat) (ρ : Nat) (x1 : Int32) (x2 : Int32) (x3 : Int32) (h : xm_H) : Option (Int32 × xm_H) := (xe (f_X10_winner N ρ x1 x2 x3 h) (fun v1 h2 => (xl (xm_sl h2 316 0 (Int32.toInt64 v1)) fun h4 => (some ((0 : Int32), h4)))) (fun q6 h7 => (if (q6).1 = 14 then (some ((1 : Int32), h7)) else (if (q6).1 = 15 then (some ((2 : Int32), h7)) else none))))
theorem t_L_winner {N : Nat} {ρ : Nat} {δ : Nat} {x1 : Int32} {x2 : Int32} {x3 : Int32} {h : xm_H} {w : Int32 × xm_H}  (hS : xS ρ δ h) (hf : f_L_winner N ρ x1 x2 x3 h = some w) : xm_Rn xX 5 338 [.ref 160, .int x1, .int x2, .int x3, .ref 316] h (xji w.1) w.2 ∧ xS ρ δ w.2 := by
  refine xt_mk (φ := fun h => xS ρ δ h) (M := xM_L_winner) (ls := [some (.ref 160), some (.int x1), some (.int x2), some (.int x3), some (.ref 316), none]) rfl (Nat.le_of_ble_eq_true rfl) rfl (fun Q hQ => ?_)
  unfold f_L_winner at hf
  refine xw_G (pc' := 2) (st' := [.ref 316]) rfl rfl trivial ?_
  refine xw_G (pc' := 3) (st' := [.int (0 : Int32), .ref 316]) rfl rfl trivial ?_
  refine xw_G (pc' := 4) (st' := [.ref 160, .int (0 : Int32), .ref 316]) rfl rfl trivial ?_
  refine xw_G (pc' := 5) (st' := [.int x1, .ref 160, .int (0 : Int32), .ref 316]) rfl rfl trivial ?_
  refine xw_G (pc' := 6) (st' := [.int x2, .int x1, .ref 160, .int (0 : Int32), .ref 316]) rfl rfl trivial ?_
  refine xw_G (pc' := 7) (st' := [.int x3, .int x2, .int x1, .ref 160, .int (0 : Int32), .ref 316]) rfl rfl trivial ?_
  refine xe_e hf (fun v1 h2 e3 hf => ?_) (fun q6 h7 e3 hf => ?_)
  · refine xw_V (v := some (.int v1)) rfl rfl (xkf (xs_k hS rfl rfl : xm_k h 160 = (0, 0))) (Nat.le_of_ble_eq_true rfl) (Nat.le_of_ble_eq_true rfl) (xm_Rn_le (Nat.le_of_ble_eq_true rfl) (t_X10_winner  hS e3).1) ?_
    have hS := (t_X10_winner  hS e3).2
    show xm_W _ _ _ 10 _ [.int v1, .int (0 : Int32), .ref 316] _
    refine xw_G (pc' := 11) (st' := [.long (Int32.toInt64 v1), .int (0 : Int32), .ref 316]) rfl rfl trivial ?_
    refine xa_l rfl (xkf (xs_k hS rfl rfl : xm_k h2 316 = (104, 1))) (xkn (xs_k hS rfl rfl : xm_k h2 316 = (104, 1))) (by decide : xin (0 : Int32) 1) (Nat.le_of_ble_eq_true rfl) hf (fun h4 e5 hf => ?_)
    have hS := xS_sl hS e5
    refine xw_G (pc' := 23) (st' := []) rfl rfl trivial ?_
    refine xw_G (pc' := 24) (st' := [.int (0 : Int32)]) rfl rfl trivial ?_
    exact xr_i (inj := xji) rfl rfl rfl rfl hf hQ hS
  · by_cases hc8 : (q6).1 = 14
    · rw [if_pos hc8] at hf
      refine xw_VH (x := q6) (p := 15) rfl rfl (xkf (xs_k hS rfl rfl : xm_k h 160 = (0, 0))) (Nat.le_of_ble_eq_true rfl) (Nat.le_of_ble_eq_true rfl) (xm_Rn_le (Nat.le_of_ble_eq_true rfl) (t_X10_winner  hS e3).1) (by rw [hc8]; rfl) ?_
      have hS := (t_X10_winner  hS e3).2
      refine xw_G (pc' := 17) (ls' := [some (.ref 160), some (.int x1), some (.int x2), some (.int x3), some (.ref 316), some (.ref ((q6).2))]) (st' := []) rfl rfl (Nat.le_of_ble_eq_true rfl) ?_
      refine xw_G (pc' := 18) (st' := [.int (1 : Int32)]) rfl rfl trivial ?_
      exact xr_i (inj := xji) rfl rfl rfl rfl hf hQ hS
    · rw [if_neg hc8] at hf
      by_cases hc8 : (q6).1 = 15
      · rw [if_pos hc8] at hf
        refine xw_VH (x := q6) (p := 19) rfl rfl (xkf (xs_k hS rfl rfl : xm_k h 160 = (0, 0))) (Nat.le_of_ble_eq_true rfl) (Nat.le_of_ble_eq_true rfl) (xm_Rn_le (Nat.le_of_ble_eq_true rfl) (t_X10_winner  hS e3).1) (by rw [hc8]; rfl) ?_
        have hS := (t_X10_winner  hS e3).2
        refine xw_G (pc' := 21) (ls' := [some (.ref 160), some (.int x1), some (.int x2), some (.int x3), some (.ref 316), some (.ref ((q6).2))]) (st' := []) rfl rfl (Nat.le_of_ble_eq_true rfl) ?_
        refine xw_G (pc' := 22) (st' := [.int (2 : Int32)]) rfl rfl trivial ?_
        exact xr_i (inj := xji) rfl rfl rfl rfl hf hQ hS
      · rw [if_neg hc8] at hf
        exact (xn_e hf).elim
def f_X11_winner (N : Nat) (x1 : Int32) (x2 : Int32) (x3 : Int32) (h : xm_H) : Option (Int32 × xm_H) := (xb (f_X11_isTag x2 h) fun v1 h2 => (xb (f_X11_isUser x1 h2) fun v4 h5 => (if v4 = 0 then (xb (f_X11_good_ v1 (0 : Int32) h5) fun v8 h9 => (if v8 = 0 then (some ((0 : Int32), h9)) else (xb (f_X11_auction N x1 x2 (x3 + (1 : Int32)) h9) fun v12 h13 => (if x3 < (xm_i h13 302 28) then (if xin x3 4 then (some (xm_i h13 313 (Int32.toNatClampNeg x3), h13)) else none) else (some ((-1 : Int32), h13)))))) else (xb (f_X11_between (Int32.toInt64 x3) (0 : Int64) (Int32.toInt64 ((xm_i h5 308 2) - (1 : Int32))) h5) fun v17 h18 => (if v17 = 0 then (xb (f_X11_good_ v1 (0 : Int32) h18) fun v21 h22 => (if v21 = 0 then (some ((0 : Int32), h22)) else (xb (f_X11_auction N x1 x2 (x3 + (1 : Int32)) h22) fun v25 h26 => (if x3 < (xm_i h26 302 28) then (if xin x3 4 then (some (xm_i h26 313 (Int32.toNatClampNeg x3), h26)) else none) else (some ((-1 : Int32), h26)))))) else (xb (f_X11_good_ v1 (1 : Int32) h18) fun v30 h31 => (if v30 = 0 then (some ((0 : Int32), h31)) else (xb (f_X11_auction N x1 x2 (x3 + (1 : Int32)) h31) fun v34 h35 => (if x3 < (xm_i h35 302 28) then (if xin x3 4 then (some (xm_i h35 313 (Int32.toNatClampNeg x3), h35)) else none) else (some ((-1 : Int32), h35)))))))))))
theorem t_X11_winner {N : Nat} {ρ : Nat} {δ : Nat} {x1 : Int32} {x2 : Int32} {x3 : Int32} {h : xm_H} {w : Int32 × xm_H}  (hS : xS ρ δ h) (hf : f_X11_winner N x1 x2 x3 h = some w) : xm_Rn xX 5 202 [.ref 302, .int x1, .int x2, .int x3] h (xji w.1) w.2 ∧ xS ρ δ w.2 := by
  refine xt_mk (φ := fun h => xS ρ δ h) (M := xM_X11_winner) (ls := [some (.ref 302), some (.int x1), some (.int x2), some (.int x3)]) rfl (Nat.le_of_ble_eq_true rfl) rfl (fun Q hQ => ?_)
  unfold f_X11_winner at hf
  refine xw_G (pc' := 1) (st' := [.ref 302]) rfl rfl trivial ?_
  refine xw_G (pc' := 2) (st' := [.ref 302, .ref 302]) rfl rfl trivial ?_
  refine xw_G (pc' := 3) (st' := [.int x2, .ref 302, .ref 302]) rfl rfl trivial ?_
  refine xb_e hf (fun v1 h2 e3 hf => ?_)
  refine xw_V (v := some (.int v1)) rfl rfl (xkf (xs_k hS rfl rfl : xm_k h 302 = (11, 0))) (Nat.le_of_ble_eq_true rfl) (Nat.le_of_ble_eq_true rfl) (xm_Rn_le (Nat.le_of_ble_eq_true rfl) (t_X11_isTag  hS e3).1) ?_
  have hS := (t_X11_isTag  hS e3).2
  show xm_W _ _ _ 6 _ [.int v1, .ref 302] _
  refine xw_G (pc' := 7) (st' := [.int x1, .int v1, .ref 302]) rfl rfl trivial ?_
  refine xb_e hf (fun v4 h5 e6 hf => ?_)
  refine xw_S (v := some (.int v4)) rfl (Nat.le_of_ble_eq_true rfl) (Nat.le_of_ble_eq_true rfl) (xm_Rn_le (Nat.le_of_ble_eq_true rfl) (t_X11_isUser  hS e6).1) ?_
  have hS := (t_X11_isUser  hS e6).2
  show xm_W _ _ _ 10 _ [.int v4, .int v1, .ref 302] _
  refine xj_if_eq rfl hf (fun hc7 hf => ?_) (fun hc7 hf => ?_)
  · refine xw_G (pc' := 36) (st' := [.int (0 : Int32), .int v1, .ref 302]) rfl rfl trivial ?_
    refine xb_e hf (fun v8 h9 e10 hf => ?_)
    refine xw_V (v := some (.int v8)) rfl rfl (xkf (xs_k hS rfl rfl : xm_k h5 302 = (11, 0))) (Nat.le_of_ble_eq_true rfl) (Nat.le_of_ble_eq_true rfl) (xm_Rn_le (Nat.le_of_ble_eq_true rfl) (t_X11_good_  hS e10).1) ?_
    have hS := (t_X11_good_  hS e10).2
    show xm_W _ _ _ 39 _ [.int v8] _
    refine xj_if_ne rfl hf (fun hc11 hf => ?_) (fun hc11 hf => ?_)
    · refine xw_G (pc' := 43) (st' := [.int (0 : Int32)]) rfl rfl trivial ?_
      exact xr_i (inj := xji) rfl rfl rfl rfl hf hQ hS
    · refine xw_G (pc' := 45) (st' := [.ref 302]) rfl rfl trivial ?_
      refine xw_G (pc' := 46) (st' := [.int x1, .ref 302]) rfl rfl trivial ?_
      refine xw_G (pc' := 47) (st' := [.int x2, .int x1, .ref 302]) rfl rfl trivial ?_
      refine xw_G (pc' := 48) (st' := [.int x3, .int x2, .int x1, .ref 302]) rfl rfl trivial ?_
      refine xw_G (pc' := 49) (st' := [.int (1 : Int32), .int x3, .int x2, .int x1, .ref 302]) rfl rfl trivial ?_
      refine xw_G (pc' := 50) (st' := [.int (x3 + (1 : Int32)), .int x2, .int x1, .ref 302]) rfl rfl trivial ?_
      refine xb_e hf (fun v12 h13 e14 hf => ?_)
      refine xw_V (v := none) rfl rfl (xkf (xs_k hS rfl rfl : xm_k h9 302 = (11, 0))) (Nat.le_of_ble_eq_true rfl) (Nat.le_of_ble_eq_true rfl) (xm_Rn_le (Nat.le_of_ble_eq_true rfl) (t_X11_auction  hS e14).1) ?_
      have hS := (t_X11_auction  hS e14).2
      show xm_W _ _ _ 53 _ [] _
      refine xw_G (pc' := 54) (st' := [.int x3]) rfl rfl trivial ?_
      refine xw_G (pc' := 55) (st' := [.ref 302, .int x3]) rfl rfl trivial ?_
      refine xw_G (pc' := 58) (st' := [.int (xm_i h13 302 28), .int x3]) rfl rfl (xkf (xs_k hS rfl rfl : xm_k h13 302 = (11, 0))) ?_
      refine xj_ic_ge rfl hf (fun hc15 hf => ?_) (fun hc15 hf => ?_)
      · refine xw_G (pc' := 62) (st' := [.ref 302]) rfl rfl trivial ?_
        refine xw_gr rfl (xkf (xs_k hS rfl rfl : xm_k h13 302 = (11, 0))) (xs_r hS rfl) ?_
        refine xw_G (pc' := 66) (st' := [.int x3, .ref 313]) rfl rfl trivial ?_
        refine xg_e hf (fun hg16 hf => ?_)
        refine xa_ld (t := 100) (τ := 0) (v := .int (xm_i h13 313 (Int32.toNatClampNeg x3))) rfl rfl (xkf (xs_k hS rfl rfl : xm_k h13 313 = (100, 4))) (xkn (xs_k hS rfl rfl : xm_k h13 313 = (100, 4))) hg16 rfl ?_
        refine xw_G (pc' := 71) (st' := [.int (xm_i h13 313 (Int32.toNatClampNeg x3))]) rfl rfl trivial ?_
        exact xr_i (inj := xji) rfl rfl rfl rfl hf hQ hS
      · refine xw_G (pc' := 71) (st' := [.int (-1 : Int32)]) rfl rfl trivial ?_
        exact xr_i (inj := xji) rfl rfl rfl rfl hf hQ hS
  · refine xw_G (pc' := 14) (st' := [.int x3, .int v1, .ref 302]) rfl rfl trivial ?_
    refine xw_G (pc' := 15) (st' := [.long (Int32.toInt64 x3), .int v1, .ref 302]) rfl rfl trivial ?_
    refine xw_G (pc' := 16) (st' := [.long (0 : Int64), .long (Int32.toInt64 x3), .int v1, .ref 302]) rfl rfl trivial ?_
    refine xw_G (pc' := 17) (st' := [.ref 302, .long (0 : Int64), .long (Int32.toInt64 x3), .int v1, .ref 302]) rfl rfl trivial ?_
    refine xw_gr rfl (xkf (xs_k hS rfl rfl : xm_k h5 302 = (11, 0))) (xs_r hS rfl) ?_
    refine xw_G (pc' := 21) (st' := [.int (2 : Int32), .ref 308, .long (0 : Int64), .long (Int32.toInt64 x3), .int v1, .ref 302]) rfl rfl trivial ?_
    refine xa_ld (t := 100) (τ := 0) (v := .int (xm_i h5 308 2)) rfl rfl (xkf (xs_k hS rfl rfl : xm_k h5 308 = (100, 72))) (xkn (xs_k hS rfl rfl : xm_k h5 308 = (100, 72))) (by decide : xin (2 : Int32) 72) rfl ?_
    refine xw_G (pc' := 23) (st' := [.int (1 : Int32), .int (xm_i h5 308 2), .long (0 : Int64), .long (Int32.toInt64 x3), .int v1, .ref 302]) rfl rfl trivial ?_
    refine xw_G (pc' := 24) (st' := [.int ((xm_i h5 308 2) - (1 : Int32)), .long (0 : Int64), .long (Int32.toInt64 x3), .int v1, .ref 302]) rfl rfl trivial ?_
    refine xw_G (pc' := 25) (st' := [.long (Int32.toInt64 ((xm_i h5 308 2) - (1 : Int32))), .long (0 : Int64), .long (Int32.toInt64 x3), .int v1, .ref 302]) rfl rfl trivial ?_
    refine xb_e hf (fun v17 h18 e19 hf => ?_)
    refine xw_S (v := some (.int v17)) rfl (Nat.le_of_ble_eq_true rfl) (Nat.le_of_ble_eq_true rfl) (xm_Rn_le (Nat.le_of_ble_eq_true rfl) (t_X11_between  hS e19).1) ?_
    have hS := (t_X11_between  hS e19).2
    show xm_W _ _ _ 28 _ [.int v17, .int v1, .ref 302] _
    refine xj_if_eq rfl hf (fun hc20 hf => ?_) (fun hc20 hf => ?_)
    · refine xw_G (pc' := 36) (st' := [.int (0 : Int32), .int v1, .ref 302]) rfl rfl trivial ?_
      refine xb_e hf (fun v21 h22 e23 hf => ?_)
      refine xw_V (v := some (.int v21)) rfl rfl (xkf (xs_k hS rfl rfl : xm_k h18 302 = (11, 0))) (Nat.le_of_ble_eq_true rfl) (Nat.le_of_ble_eq_true rfl) (xm_Rn_le (Nat.le_of_ble_eq_true rfl) (t_X11_good_  hS e23).1) ?_
      have hS := (t_X11_good_  hS e23).2
      show xm_W _ _ _ 39 _ [.int v21] _
      refine xj_if_ne rfl hf (fun hc24 hf => ?_) (fun hc24 hf => ?_)
      · refine xw_G (pc' := 43) (st' := [.int (0 : Int32)]) rfl rfl trivial ?_
        exact xr_i (inj := xji) rfl rfl rfl rfl hf hQ hS
      · refine xw_G (pc' := 45) (st' := [.ref 302]) rfl rfl trivial ?_
        refine xw_G (pc' := 46) (st' := [.int x1, .ref 302]) rfl rfl trivial ?_
        refine xw_G (pc' := 47) (st' := [.int x2, .int x1, .ref 302]) rfl rfl trivial ?_
        refine xw_G (pc' := 48) (st' := [.int x3, .int x2, .int x1, .ref 302]) rfl rfl trivial ?_
        refine xw_G (pc' := 49) (st' := [.int (1 : Int32), .int x3, .int x2, .int x1, .ref 302]) rfl rfl trivial ?_
        refine xw_G (pc' := 50) (st' := [.int (x3 + (1 : Int32)), .int x2, .int x1, .ref 302]) rfl rfl trivial ?_
        refine xb_e hf (fun v25 h26 e27 hf => ?_)
        refine xw_V (v := none) rfl rfl (xkf (xs_k hS rfl rfl : xm_k h22 302 = (11, 0))) (Nat.le_of_ble_eq_true rfl) (Nat.le_of_ble_eq_true rfl) (xm_Rn_le (Nat.le_of_ble_eq_true rfl) (t_X11_auction  hS e27).1) ?_
        have hS := (t_X11_auction  hS e27).2
        show xm_W _ _ _ 53 _ [] _
        refine xw_G (pc' := 54) (st' := [.int x3]) rfl rfl trivial ?_
        refine xw_G (pc' := 55) (st' := [.ref 302, .int x3]) rfl rfl trivial ?_
        refine xw_G (pc' := 58) (st' := [.int (xm_i h26 302 28), .int x3]) rfl rfl (xkf (xs_k hS rfl rfl : xm_k h26 302 = (11, 0))) ?_
        refine xj_ic_ge rfl hf (fun hc28 hf => ?_) (fun hc28 hf => ?_)
        · refine xw_G (pc' := 62) (st' := [.ref 302]) rfl rfl trivial ?_
          refine xw_gr rfl (xkf (xs_k hS rfl rfl : xm_k h26 302 = (11, 0))) (xs_r hS rfl) ?_
          refine xw_G (pc' := 66) (st' := [.int x3, .ref 313]) rfl rfl trivial ?_
          refine xg_e hf (fun hg29 hf => ?_)
          refine xa_ld (t := 100) (τ := 0) (v := .int (xm_i h26 313 (Int32.toNatClampNeg x3))) rfl rfl (xkf (xs_k hS rfl rfl : xm_k h26 313 = (100, 4))) (xkn (xs_k hS rfl rfl : xm_k h26 313 = (100, 4))) hg29 rfl ?_
          refine xw_G (pc' := 71) (st' := [.int (xm_i h26 313 (Int32.toNatClampNeg x3))]) rfl rfl trivial ?_
          exact xr_i (inj := xji) rfl rfl rfl rfl hf hQ hS
        · refine xw_G (pc' := 71) (st' := [.int (-1 : Int32)]) rfl rfl trivial ?_
          exact xr_i (inj := xji) rfl rfl rfl rfl hf hQ hS
    · refine xw_G (pc' := 32) (st' := [.int (1 : Int32), .int v1, .ref 302]) rfl rfl trivial ?_
      refine xw_G (pc' := 36) (st' := [.int (1 : Int32), .int v1, .ref 302]) rfl rfl trivial ?_
      refine xb_e hf (fun v30 h31 e32 hf => ?_)
      refine xw_V (v := some (.int v30)) rfl rfl (xkf (xs_k hS rfl rfl : xm_k h18 302 = (11, 0))) (Nat.le_of_ble_eq_true rfl) (Nat.le_of_ble_eq_true rfl) (xm_Rn_le (Nat.le_of_ble_eq_true rfl) (t_X11_good_  hS e32).1) ?_
      have hS := (t_X11_good_  hS e32).2
      show xm_W _ _ _ 39 _ [.int v30] _
      refine xj_if_ne rfl hf (fun hc33 hf => ?_) (fun hc33 hf => ?_)
      · refine xw_G (pc' := 43) (st' := [.int (0 : Int32)]) rfl rfl trivial ?_
        exact xr_i (inj := xji) rfl rfl rfl rfl hf hQ hS
      · refine xw_G (pc' := 45) (st' := [.ref 302]) rfl rfl trivial ?_
        refine xw_G (pc' := 46) (st' := [.int x1, .ref 302]) rfl rfl trivial ?_
        refine xw_G (pc' := 47) (st' := [.int x2, .int x1, .ref 302]) rfl rfl trivial ?_
        refine xw_G (pc' := 48) (st' := [.int x3, .int x2, .int x1, .ref 302]) rfl rfl trivial ?_
        refine xw_G (pc' := 49) (st' := [.int (1 : Int32), .int x3, .int x2, .int x1, .ref 302]) rfl rfl trivial ?_
        refine xw_G (pc' := 50) (st' := [.int (x3 + (1 : Int32)), .int x2, .int x1, .ref 302]) rfl rfl trivial ?_
        refine xb_e hf (fun v34 h35 e36 hf => ?_)
        refine xw_V (v := none) rfl rfl (xkf (xs_k hS rfl rfl : xm_k h31 302 = (11, 0))) (Nat.le_of_ble_eq_true rfl) (Nat.le_of_ble_eq_true rfl) (xm_Rn_le (Nat.le_of_ble_eq_true rfl) (t_X11_auction  hS e36).1) ?_
        have hS := (t_X11_auction  hS e36).2
        show xm_W _ _ _ 53 _ [] _
        refine xw_G (pc' := 54) (st' := [.int x3]) rfl rfl trivial ?_
        refine xw_G (pc' := 55) (st' := [.ref 302, .int x3]) rfl rfl trivial ?_
        refine xw_G (pc' := 58) (st' := [.int (xm_i h35 302 28), .int x3]) rfl rfl (xkf (xs_k hS rfl rfl : xm_k h35 302 = (11, 0))) ?_
        refine xj_ic_ge rfl hf (fun hc37 hf => ?_) (fun hc37 hf => ?_)
        · refine xw_G (pc' := 62) (st' := [.ref 302]) rfl rfl trivial ?_
          refine xw_gr rfl (xkf (xs_k hS rfl rfl : xm_k h35 302 = (11, 0))) (xs_r hS rfl) ?_
          refine xw_G (pc' := 66) (st' := [.int x3, .ref 313]) rfl rfl trivial ?_
          refine xg_e hf (fun hg38 hf => ?_)
          refine xa_ld (t := 100) (τ := 0) (v := .int (xm_i h35 313 (Int32.toNatClampNeg x3))) rfl rfl (xkf (xs_k hS rfl rfl : xm_k h35 313 = (100, 4))) (xkn (xs_k hS rfl rfl : xm_k h35 313 = (100, 4))) hg38 rfl ?_
          refine xw_G (pc' := 71) (st' := [.int (xm_i h35 313 (Int32.toNatClampNeg x3))]) rfl rfl trivial ?_
          exact xr_i (inj := xji) rfl rfl rfl rfl hf hQ hS
        · refine xw_G (pc' := 71) (st' := [.int (-1 : Int32)]) rfl rfl trivial ?_
          exact xr_i (inj := xji) rfl rfl rfl rfl hf hQ hS
def f_X10_price (N : Nat) (ρ : Nat) (x1 : Int32) (x2 : Int32) (x3 : Int32) (h : xm_H) : Option ((Int32 ⊕ Nat × Nat) × xm_H) := (xe (f_X10_requireTag ρ x2 h) (fun v1 h2 => (xe (f_X10_requireUser x1 h2) (fun v4 h5 => (xe (f_X10_requireSlot ρ x3 h5) (fun v7 h8 => (if xin x2 6 then (xb (f_X2_rank N ρ x1 x2 (xm_i h8 202 (Int32.toNatClampNeg x2)) h8) fun v11 h12 => (xb (f_X2_fill N ρ (x3 + (1 : Int32)) (xm_i h12 202 (Int32.toNatClampNeg x2)) h12) fun v14 h15 => (if x3 < (xm_i h15 182 9) then (if xin x3 4 then (some (.inl (xm_i h15 219 (Int32.toNatClampNeg x3)), h15)) else none) else (some (.inl (-1 : Int32), h15))))) else none)) (fun q19 h20 => (some (.inr q19, h20))))) (fun q22 h23 => (some (.inr q22, h23))))) (fun q25 h26 => (some (.inr q25, h26))))
theorem t_X10_price {N : Nat} {ρ : Nat} {δ : Nat} {x1 : Int32} {x2 : Int32} {x3 : Int32} {h : xm_H} {w : (Int32 ⊕ Nat × Nat) × xm_H}  (hS : xS ρ δ h) (hf : f_X10_price N ρ x1 x2 x3 h = some w) : xm_Rn xX 4 92 [.ref 160, .int x1, .int x2, .int x3] h (xti w.1) w.2 ∧ xS ρ δ w.2 := by
  refine xt_mk (φ := fun h => xS ρ δ h) (M := xM_X10_price) (ls := [some (.ref 160), some (.int x1), some (.int x2), some (.int x3)]) rfl (Nat.le_of_ble_eq_true rfl) rfl (fun Q hQ => ?_)
  unfold f_X10_price at hf
  refine xw_G (pc' := 1) (st' := [.ref 160]) rfl rfl trivial ?_
  refine xw_G (pc' := 2) (st' := [.int x2, .ref 160]) rfl rfl trivial ?_
  refine xe_e hf (fun v1 h2 e3 hf => ?_) (fun q25 h26 e3 hf => ?_)
  · refine xw_V (v := none) rfl rfl (xkf (xs_k hS rfl rfl : xm_k h 160 = (0, 0))) (Nat.le_of_ble_eq_true rfl) (Nat.le_of_ble_eq_true rfl) (xm_Rn_le (Nat.le_of_ble_eq_true rfl) (t_X10_requireTag  hS e3).1) ?_
    have hS := (t_X10_requireTag  hS e3).2
    show xm_W _ _ _ 5 _ [] _
    refine xw_G (pc' := 6) (st' := [.int x1]) rfl rfl trivial ?_
    refine xe_e hf (fun v4 h5 e6 hf => ?_) (fun q22 h23 e6 hf => ?_)
    · refine xw_S (v := none) rfl (Nat.le_of_ble_eq_true rfl) (Nat.le_of_ble_eq_true rfl) (xm_Rn_le (Nat.le_of_ble_eq_true rfl) (t_X10_requireUser  hS e6).1) ?_
      have hS := (t_X10_requireUser  hS e6).2
      show xm_W _ _ _ 9 _ [] _
      refine xw_G (pc' := 10) (st' := [.ref 160]) rfl rfl trivial ?_
      refine xw_G (pc' := 11) (st' := [.int x3, .ref 160]) rfl rfl trivial ?_
      refine xe_e hf (fun v7 h8 e9 hf => ?_) (fun q19 h20 e9 hf => ?_)
      · refine xw_V (v := none) rfl rfl (xkf (xs_k hS rfl rfl : xm_k h5 160 = (0, 0))) (Nat.le_of_ble_eq_true rfl) (Nat.le_of_ble_eq_true rfl) (xm_Rn_le (Nat.le_of_ble_eq_true rfl) (t_X10_requireSlot  hS e9).1) ?_
        have hS := (t_X10_requireSlot  hS e9).2
        show xm_W _ _ _ 14 _ [] _
        refine xw_G (pc' := 15) (st' := [.ref 160]) rfl rfl trivial ?_
        refine xw_gr rfl (xkf (xs_k hS rfl rfl : xm_k h8 160 = (0, 0))) (xs_r hS rfl) ?_
        refine xw_G (pc' := 19) (st' := [.int x1, .ref 182]) rfl rfl trivial ?_
        refine xw_G (pc' := 20) (st' := [.int x2, .int x1, .ref 182]) rfl rfl trivial ?_
        refine xw_G (pc' := 21) (st' := [.ref 160, .int x2, .int x1, .ref 182]) rfl rfl trivial ?_
        refine xw_gr rfl (xkf (xs_k hS rfl rfl : xm_k h8 160 = (0, 0))) (xs_r hS rfl) ?_
        refine xw_gr rfl (xkf (xs_k hS rfl rfl : xm_k h8 182 = (3, 0))) (xs_r hS rfl) ?_
        refine xw_gr rfl (xkf (xs_k hS rfl rfl : xm_k h8 201 = (8, 0))) (xs_r hS rfl) ?_
        refine xw_G (pc' := 31) (st' := [.int x2, .ref 202, .int x2, .int x1, .ref 182]) rfl rfl trivial ?_
        refine xg_e hf (fun hg10 hf => ?_)
        refine xa_ld (t := 100) (τ := 0) (v := .int (xm_i h8 202 (Int32.toNatClampNeg x2))) rfl rfl (xkf (xs_k hS rfl rfl : xm_k h8 202 = (100, 6))) (xkn (xs_k hS rfl rfl : xm_k h8 202 = (100, 6))) hg10 rfl ?_
        refine xb_e hf (fun v11 h12 e13 hf => ?_)
        refine xw_V (v := none) rfl rfl (xkf (xs_k hS rfl rfl : xm_k h8 182 = (3, 0))) (Nat.le_of_ble_eq_true rfl) (Nat.le_of_ble_eq_true rfl) (xm_Rn_le (Nat.le_of_ble_eq_true rfl) (t_X2_rank  hS e13).1) ?_
        have hS := (t_X2_rank  hS e13).2
        show xm_W _ _ _ 35 _ [] _
        refine xw_G (pc' := 36) (st' := [.ref 160]) rfl rfl trivial ?_
        refine xw_gr rfl (xkf (xs_k hS rfl rfl : xm_k h12 160 = (0, 0))) (xs_r hS rfl) ?_
        refine xw_G (pc' := 40) (st' := [.int x3, .ref 182]) rfl rfl trivial ?_
        refine xw_G (pc' := 41) (st' := [.int (1 : Int32), .int x3, .ref 182]) rfl rfl trivial ?_
        refine xw_G (pc' := 42) (st' := [.int (x3 + (1 : Int32)), .ref 182]) rfl rfl trivial ?_
        refine xw_G (pc' := 43) (st' := [.ref 160, .int (x3 + (1 : Int32)), .ref 182]) rfl rfl trivial ?_
        refine xw_gr rfl (xkf (xs_k hS rfl rfl : xm_k h12 160 = (0, 0))) (xs_r hS rfl) ?_
        refine xw_gr rfl (xkf (xs_k hS rfl rfl : xm_k h12 182 = (3, 0))) (xs_r hS rfl) ?_
        refine xw_gr rfl (xkf (xs_k hS rfl rfl : xm_k h12 201 = (8, 0))) (xs_r hS rfl) ?_
        refine xw_G (pc' := 53) (st' := [.int x2, .ref 202, .int (x3 + (1 : Int32)), .ref 182]) rfl rfl trivial ?_
        refine xa_ld (t := 100) (τ := 0) (v := .int (xm_i h12 202 (Int32.toNatClampNeg x2))) rfl rfl (xkf (xs_k hS rfl rfl : xm_k h12 202 = (100, 6))) (xkn (xs_k hS rfl rfl : xm_k h12 202 = (100, 6))) hg10 rfl ?_
        refine xb_e hf (fun v14 h15 e16 hf => ?_)
        refine xw_V (v := none) rfl rfl (xkf (xs_k hS rfl rfl : xm_k h12 182 = (3, 0))) (Nat.le_of_ble_eq_true rfl) (Nat.le_of_ble_eq_true rfl) (xm_Rn_le (Nat.le_of_ble_eq_true rfl) (t_X2_fill  hS e16).1) ?_
        have hS := (t_X2_fill  hS e16).2
        show xm_W _ _ _ 57 _ [] _
        refine xw_G (pc' := 58) (st' := [.int x3]) rfl rfl trivial ?_
        refine xw_G (pc' := 59) (st' := [.ref 160, .int x3]) rfl rfl trivial ?_
        refine xw_gr rfl (xkf (xs_k hS rfl rfl : xm_k h15 160 = (0, 0))) (xs_r hS rfl) ?_
        refine xw_G (pc' := 65) (st' := [.int (xm_i h15 182 9), .int x3]) rfl rfl (xkf (xs_k hS rfl rfl : xm_k h15 182 = (3, 0))) ?_
        refine xj_ic_ge rfl hf (fun hc17 hf => ?_) (fun hc17 hf => ?_)
        · refine xw_G (pc' := 69) (st' := [.ref 160]) rfl rfl trivial ?_
          refine xw_gr rfl (xkf (xs_k hS rfl rfl : xm_k h15 160 = (0, 0))) (xs_r hS rfl) ?_
          refine xw_gr rfl (xkf (xs_k hS rfl rfl : xm_k h15 182 = (3, 0))) (xs_r hS rfl) ?_
          refine xw_G (pc' := 76) (st' := [.int x3, .ref 219]) rfl rfl trivial ?_
          refine xg_e hf (fun hg18 hf => ?_)
          refine xa_ld (t := 100) (τ := 0) (v := .int (xm_i h15 219 (Int32.toNatClampNeg x3))) rfl rfl (xkf (xs_k hS rfl rfl : xm_k h15 219 = (100, 4))) (xkn (xs_k hS rfl rfl : xm_k h15 219 = (100, 4))) hg18 rfl ?_
          refine xw_G (pc' := 81) (st' := [.int (xm_i h15 219 (Int32.toNatClampNeg x3))]) rfl rfl trivial ?_
          exact xr_i (inj := xti) rfl rfl rfl rfl hf hQ hS
        · refine xw_G (pc' := 81) (st' := [.int (-1 : Int32)]) rfl rfl trivial ?_
          exact xr_i (inj := xti) rfl rfl rfl rfl hf hQ hS
      · refine xw_VX (x := q19) rfl rfl (xkf (xs_k hS rfl rfl : xm_k h5 160 = (0, 0))) (Nat.le_of_ble_eq_true rfl) (Nat.le_of_ble_eq_true rfl) (xm_Rn_le (Nat.le_of_ble_eq_true rfl) (t_X10_requireSlot  hS e9).1) rfl ?_
        have hS := (t_X10_requireSlot  hS e9).2
        exact xr_x (inj := xti) rfl hf hQ hS
    · refine xw_SX (x := q22) rfl (Nat.le_of_ble_eq_true rfl) (Nat.le_of_ble_eq_true rfl) (xm_Rn_le (Nat.le_of_ble_eq_true rfl) (t_X10_requireUser  hS e6).1) rfl ?_
      have hS := (t_X10_requireUser  hS e6).2
      exact xr_x (inj := xti) rfl hf hQ hS
  · refine xw_VX (x := q25) rfl rfl (xkf (xs_k hS rfl rfl : xm_k h 160 = (0, 0))) (Nat.le_of_ble_eq_true rfl) (Nat.le_of_ble_eq_true rfl) (xm_Rn_le (Nat.le_of_ble_eq_true rfl) (t_X10_requireTag  hS e3).1) rfl ?_
    have hS := (t_X10_requireTag  hS e3).2
    exact xr_x (inj := xti) rfl hf hQ hS
def f_L_price (N : Nat) (ρ : Nat) (x1 : Int32) (x2 : Int32) (x3 : Int32) (h : xm_H) : Option (Int32 × xm_H) := (xe (f_X10_price N ρ x1 x2 x3 h) (fun v1 h2 => (xl (xm_sl h2 316 0 (Int32.toInt64 v1)) fun h4 => (some ((0 : Int32), h4)))) (fun q6 h7 => (if (q6).1 = 14 then (some ((1 : Int32), h7)) else (if (q6).1 = 15 then (some ((2 : Int32), h7)) else none))))
theorem t_L_price {N : Nat} {ρ : Nat} {δ : Nat} {x1 : Int32} {x2 : Int32} {x3 : Int32} {h : xm_H} {w : Int32 × xm_H}  (hS : xS ρ δ h) (hf : f_L_price N ρ x1 x2 x3 h = some w) : xm_Rn xX 5 339 [.ref 160, .int x1, .int x2, .int x3, .ref 316] h (xji w.1) w.2 ∧ xS ρ δ w.2 := by
  refine xt_mk (φ := fun h => xS ρ δ h) (M := xM_L_price) (ls := [some (.ref 160), some (.int x1), some (.int x2), some (.int x3), some (.ref 316), none]) rfl (Nat.le_of_ble_eq_true rfl) rfl (fun Q hQ => ?_)
  unfold f_L_price at hf
  refine xw_G (pc' := 2) (st' := [.ref 316]) rfl rfl trivial ?_
  refine xw_G (pc' := 3) (st' := [.int (0 : Int32), .ref 316]) rfl rfl trivial ?_
  refine xw_G (pc' := 4) (st' := [.ref 160, .int (0 : Int32), .ref 316]) rfl rfl trivial ?_
  refine xw_G (pc' := 5) (st' := [.int x1, .ref 160, .int (0 : Int32), .ref 316]) rfl rfl trivial ?_
  refine xw_G (pc' := 6) (st' := [.int x2, .int x1, .ref 160, .int (0 : Int32), .ref 316]) rfl rfl trivial ?_
  refine xw_G (pc' := 7) (st' := [.int x3, .int x2, .int x1, .ref 160, .int (0 : Int32), .ref 316]) rfl rfl trivial ?_
  refine xe_e hf (fun v1 h2 e3 hf => ?_) (fun q6 h7 e3 hf => ?_)
  · refine xw_V (v := some (.int v1)) rfl rfl (xkf (xs_k hS rfl rfl : xm_k h 160 = (0, 0))) (Nat.le_of_ble_eq_true rfl) (Nat.le_of_ble_eq_true rfl) (xm_Rn_le (Nat.le_of_ble_eq_true rfl) (t_X10_price  hS e3).1) ?_
    have hS := (t_X10_price  hS e3).2
    show xm_W _ _ _ 10 _ [.int v1, .int (0 : Int32), .ref 316] _
    refine xw_G (pc' := 11) (st' := [.long (Int32.toInt64 v1), .int (0 : Int32), .ref 316]) rfl rfl trivial ?_
    refine xa_l rfl (xkf (xs_k hS rfl rfl : xm_k h2 316 = (104, 1))) (xkn (xs_k hS rfl rfl : xm_k h2 316 = (104, 1))) (by decide : xin (0 : Int32) 1) (Nat.le_of_ble_eq_true rfl) hf (fun h4 e5 hf => ?_)
    have hS := xS_sl hS e5
    refine xw_G (pc' := 23) (st' := []) rfl rfl trivial ?_
    refine xw_G (pc' := 24) (st' := [.int (0 : Int32)]) rfl rfl trivial ?_
    exact xr_i (inj := xji) rfl rfl rfl rfl hf hQ hS
  · by_cases hc8 : (q6).1 = 14
    · rw [if_pos hc8] at hf
      refine xw_VH (x := q6) (p := 15) rfl rfl (xkf (xs_k hS rfl rfl : xm_k h 160 = (0, 0))) (Nat.le_of_ble_eq_true rfl) (Nat.le_of_ble_eq_true rfl) (xm_Rn_le (Nat.le_of_ble_eq_true rfl) (t_X10_price  hS e3).1) (by rw [hc8]; rfl) ?_
      have hS := (t_X10_price  hS e3).2
      refine xw_G (pc' := 17) (ls' := [some (.ref 160), some (.int x1), some (.int x2), some (.int x3), some (.ref 316), some (.ref ((q6).2))]) (st' := []) rfl rfl (Nat.le_of_ble_eq_true rfl) ?_
      refine xw_G (pc' := 18) (st' := [.int (1 : Int32)]) rfl rfl trivial ?_
      exact xr_i (inj := xji) rfl rfl rfl rfl hf hQ hS
    · rw [if_neg hc8] at hf
      by_cases hc8 : (q6).1 = 15
      · rw [if_pos hc8] at hf
        refine xw_VH (x := q6) (p := 19) rfl rfl (xkf (xs_k hS rfl rfl : xm_k h 160 = (0, 0))) (Nat.le_of_ble_eq_true rfl) (Nat.le_of_ble_eq_true rfl) (xm_Rn_le (Nat.le_of_ble_eq_true rfl) (t_X10_price  hS e3).1) (by rw [hc8]; rfl) ?_
        have hS := (t_X10_price  hS e3).2
        refine xw_G (pc' := 21) (ls' := [some (.ref 160), some (.int x1), some (.int x2), some (.int x3), some (.ref 316), some (.ref ((q6).2))]) (st' := []) rfl rfl (Nat.le_of_ble_eq_true rfl) ?_
        refine xw_G (pc' := 22) (st' := [.int (2 : Int32)]) rfl rfl trivial ?_
        exact xr_i (inj := xji) rfl rfl rfl rfl hf hQ hS
      · rw [if_neg hc8] at hf
        exact (xn_e hf).elim
def f_X11_price (N : Nat) (x1 : Int32) (x2 : Int32) (x3 : Int32) (h : xm_H) : Option (Int32 × xm_H) := (xb (f_X11_isTag x2 h) fun v1 h2 => (xb (f_X11_isUser x1 h2) fun v4 h5 => (if v4 = 0 then (xb (f_X11_good_ v1 (0 : Int32) h5) fun v8 h9 => (if v8 = 0 then (some ((0 : Int32), h9)) else (xb (f_X11_auction N x1 x2 (x3 + (1 : Int32)) h9) fun v12 h13 => (if x3 < (xm_i h13 302 28) then (if xin x3 4 then (some (xm_i h13 314 (Int32.toNatClampNeg x3), h13)) else none) else (some ((-1 : Int32), h13)))))) else (xb (f_X11_between (Int32.toInt64 x3) (0 : Int64) (Int32.toInt64 ((xm_i h5 308 2) - (1 : Int32))) h5) fun v17 h18 => (if v17 = 0 then (xb (f_X11_good_ v1 (0 : Int32) h18) fun v21 h22 => (if v21 = 0 then (some ((0 : Int32), h22)) else (xb (f_X11_auction N x1 x2 (x3 + (1 : Int32)) h22) fun v25 h26 => (if x3 < (xm_i h26 302 28) then (if xin x3 4 then (some (xm_i h26 314 (Int32.toNatClampNeg x3), h26)) else none) else (some ((-1 : Int32), h26)))))) else (xb (f_X11_good_ v1 (1 : Int32) h18) fun v30 h31 => (if v30 = 0 then (some ((0 : Int32), h31)) else (xb (f_X11_auction N x1 x2 (x3 + (1 : Int32)) h31) fun v34 h35 => (if x3 < (xm_i h35 302 28) then (if xin x3 4 then (some (xm_i h35 314 (Int32.toNatClampNeg x3), h35)) else none) else (some ((-1 : Int32), h35)))))))))))
theorem t_X11_price {N : Nat} {ρ : Nat} {δ : Nat} {x1 : Int32} {x2 : Int32} {x3 : Int32} {h : xm_H} {w : Int32 × xm_H}  (hS : xS ρ δ h) (hf : f_X11_price N x1 x2 x3 h = some w) : xm_Rn xX 5 203 [.ref 302, .int x1, .int x2, .int x3] h (xji w.1) w.2 ∧ xS ρ δ w.2 := by
  refine xt_mk (φ := fun h => xS ρ δ h) (M := xM_X11_price) (ls := [some (.ref 302), some (.int x1), some (.int x2), some (.int x3)]) rfl (Nat.le_of_ble_eq_true rfl) rfl (fun Q hQ => ?_)
  unfold f_X11_price at hf
  refine xw_G (pc' := 1) (st' := [.ref 302]) rfl rfl trivial ?_
  refine xw_G (pc' := 2) (st' := [.ref 302, .ref 302]) rfl rfl trivial ?_
  refine xw_G (pc' := 3) (st' := [.int x2, .ref 302, .ref 302]) rfl rfl trivial ?_
  refine xb_e hf (fun v1 h2 e3 hf => ?_)
  refine xw_V (v := some (.int v1)) rfl rfl (xkf (xs_k hS rfl rfl : xm_k h 302 = (11, 0))) (Nat.le_of_ble_eq_true rfl) (Nat.le_of_ble_eq_true rfl) (xm_Rn_le (Nat.le_of_ble_eq_true rfl) (t_X11_isTag  hS e3).1) ?_
  have hS := (t_X11_isTag  hS e3).2
  show xm_W _ _ _ 6 _ [.int v1, .ref 302] _
  refine xw_G (pc' := 7) (st' := [.int x1, .int v1, .ref 302]) rfl rfl trivial ?_
  refine xb_e hf (fun v4 h5 e6 hf => ?_)
  refine xw_S (v := some (.int v4)) rfl (Nat.le_of_ble_eq_true rfl) (Nat.le_of_ble_eq_true rfl) (xm_Rn_le (Nat.le_of_ble_eq_true rfl) (t_X11_isUser  hS e6).1) ?_
  have hS := (t_X11_isUser  hS e6).2
  show xm_W _ _ _ 10 _ [.int v4, .int v1, .ref 302] _
  refine xj_if_eq rfl hf (fun hc7 hf => ?_) (fun hc7 hf => ?_)
  · refine xw_G (pc' := 36) (st' := [.int (0 : Int32), .int v1, .ref 302]) rfl rfl trivial ?_
    refine xb_e hf (fun v8 h9 e10 hf => ?_)
    refine xw_V (v := some (.int v8)) rfl rfl (xkf (xs_k hS rfl rfl : xm_k h5 302 = (11, 0))) (Nat.le_of_ble_eq_true rfl) (Nat.le_of_ble_eq_true rfl) (xm_Rn_le (Nat.le_of_ble_eq_true rfl) (t_X11_good_  hS e10).1) ?_
    have hS := (t_X11_good_  hS e10).2
    show xm_W _ _ _ 39 _ [.int v8] _
    refine xj_if_ne rfl hf (fun hc11 hf => ?_) (fun hc11 hf => ?_)
    · refine xw_G (pc' := 43) (st' := [.int (0 : Int32)]) rfl rfl trivial ?_
      exact xr_i (inj := xji) rfl rfl rfl rfl hf hQ hS
    · refine xw_G (pc' := 45) (st' := [.ref 302]) rfl rfl trivial ?_
      refine xw_G (pc' := 46) (st' := [.int x1, .ref 302]) rfl rfl trivial ?_
      refine xw_G (pc' := 47) (st' := [.int x2, .int x1, .ref 302]) rfl rfl trivial ?_
      refine xw_G (pc' := 48) (st' := [.int x3, .int x2, .int x1, .ref 302]) rfl rfl trivial ?_
      refine xw_G (pc' := 49) (st' := [.int (1 : Int32), .int x3, .int x2, .int x1, .ref 302]) rfl rfl trivial ?_
      refine xw_G (pc' := 50) (st' := [.int (x3 + (1 : Int32)), .int x2, .int x1, .ref 302]) rfl rfl trivial ?_
      refine xb_e hf (fun v12 h13 e14 hf => ?_)
      refine xw_V (v := none) rfl rfl (xkf (xs_k hS rfl rfl : xm_k h9 302 = (11, 0))) (Nat.le_of_ble_eq_true rfl) (Nat.le_of_ble_eq_true rfl) (xm_Rn_le (Nat.le_of_ble_eq_true rfl) (t_X11_auction  hS e14).1) ?_
      have hS := (t_X11_auction  hS e14).2
      show xm_W _ _ _ 53 _ [] _
      refine xw_G (pc' := 54) (st' := [.int x3]) rfl rfl trivial ?_
      refine xw_G (pc' := 55) (st' := [.ref 302, .int x3]) rfl rfl trivial ?_
      refine xw_G (pc' := 58) (st' := [.int (xm_i h13 302 28), .int x3]) rfl rfl (xkf (xs_k hS rfl rfl : xm_k h13 302 = (11, 0))) ?_
      refine xj_ic_ge rfl hf (fun hc15 hf => ?_) (fun hc15 hf => ?_)
      · refine xw_G (pc' := 62) (st' := [.ref 302]) rfl rfl trivial ?_
        refine xw_gr rfl (xkf (xs_k hS rfl rfl : xm_k h13 302 = (11, 0))) (xs_r hS rfl) ?_
        refine xw_G (pc' := 66) (st' := [.int x3, .ref 314]) rfl rfl trivial ?_
        refine xg_e hf (fun hg16 hf => ?_)
        refine xa_ld (t := 100) (τ := 0) (v := .int (xm_i h13 314 (Int32.toNatClampNeg x3))) rfl rfl (xkf (xs_k hS rfl rfl : xm_k h13 314 = (100, 4))) (xkn (xs_k hS rfl rfl : xm_k h13 314 = (100, 4))) hg16 rfl ?_
        refine xw_G (pc' := 71) (st' := [.int (xm_i h13 314 (Int32.toNatClampNeg x3))]) rfl rfl trivial ?_
        exact xr_i (inj := xji) rfl rfl rfl rfl hf hQ hS
      · refine xw_G (pc' := 71) (st' := [.int (-1 : Int32)]) rfl rfl trivial ?_
        exact xr_i (inj := xji) rfl rfl rfl rfl hf hQ hS
  · refine xw_G (pc' := 14) (st' := [.int x3, .int v1, .ref 302]) rfl rfl trivial ?_
    refine xw_G (pc' := 15) (st' := [.long (Int32.toInt64 x3), .int v1, .ref 302]) rfl rfl trivial ?_
    refine xw_G (pc' := 16) (st' := [.long (0 : Int64), .long (Int32.toInt64 x3), .int v1, .ref 302]) rfl rfl trivial ?_
    refine xw_G (pc' := 17) (st' := [.ref 302, .long (0 : Int64), .long (Int32.toInt64 x3), .int v1, .ref 302]) rfl rfl trivial ?_
    refine xw_gr rfl (xkf (xs_k hS rfl rfl : xm_k h5 302 = (11, 0))) (xs_r hS rfl) ?_
    refine xw_G (pc' := 21) (st' := [.int (2 : Int32), .ref 308, .long (0 : Int64), .long (Int32.toInt64 x3), .int v1, .ref 302]) rfl rfl trivial ?_
    refine xa_ld (t := 100) (τ := 0) (v := .int (xm_i h5 308 2)) rfl rfl (xkf (xs_k hS rfl rfl : xm_k h5 308 = (100, 72))) (xkn (xs_k hS rfl rfl : xm_k h5 308 = (100, 72))) (by decide : xin (2 : Int32) 72) rfl ?_
    refine xw_G (pc' := 23) (st' := [.int (1 : Int32), .int (xm_i h5 308 2), .long (0 : Int64), .long (Int32.toInt64 x3), .int v1, .ref 302]) rfl rfl trivial ?_
    refine xw_G (pc' := 24) (st' := [.int ((xm_i h5 308 2) - (1 : Int32)), .long (0 : Int64), .long (Int32.toInt64 x3), .int v1, .ref 302]) rfl rfl trivial ?_
    refine xw_G (pc' := 25) (st' := [.long (Int32.toInt64 ((xm_i h5 308 2) - (1 : Int32))), .long (0 : Int64), .long (Int32.toInt64 x3), .int v1, .ref 302]) rfl rfl trivial ?_
    refine xb_e hf (fun v17 h18 e19 hf => ?_)
    refine xw_S (v := some (.int v17)) rfl (Nat.le_of_ble_eq_true rfl) (Nat.le_of_ble_eq_true rfl) (xm_Rn_le (Nat.le_of_ble_eq_true rfl) (t_X11_between  hS e19).1) ?_
    have hS := (t_X11_between  hS e19).2
    show xm_W _ _ _ 28 _ [.int v17, .int v1, .ref 302] _
    refine xj_if_eq rfl hf (fun hc20 hf => ?_) (fun hc20 hf => ?_)
    · refine xw_G (pc' := 36) (st' := [.int (0 : Int32), .int v1, .ref 302]) rfl rfl trivial ?_
      refine xb_e hf (fun v21 h22 e23 hf => ?_)
      refine xw_V (v := some (.int v21)) rfl rfl (xkf (xs_k hS rfl rfl : xm_k h18 302 = (11, 0))) (Nat.le_of_ble_eq_true rfl) (Nat.le_of_ble_eq_true rfl) (xm_Rn_le (Nat.le_of_ble_eq_true rfl) (t_X11_good_  hS e23).1) ?_
      have hS := (t_X11_good_  hS e23).2
      show xm_W _ _ _ 39 _ [.int v21] _
      refine xj_if_ne rfl hf (fun hc24 hf => ?_) (fun hc24 hf => ?_)
      · refine xw_G (pc' := 43) (st' := [.int (0 : Int32)]) rfl rfl trivial ?_
        exact xr_i (inj := xji) rfl rfl rfl rfl hf hQ hS
      · refine xw_G (pc' := 45) (st' := [.ref 302]) rfl rfl trivial ?_
        refine xw_G (pc' := 46) (st' := [.int x1, .ref 302]) rfl rfl trivial ?_
        refine xw_G (pc' := 47) (st' := [.int x2, .int x1, .ref 302]) rfl rfl trivial ?_
        refine xw_G (pc' := 48) (st' := [.int x3, .int x2, .int x1, .ref 302]) rfl rfl trivial ?_
        refine xw_G (pc' := 49) (st' := [.int (1 : Int32), .int x3, .int x2, .int x1, .ref 302]) rfl rfl trivial ?_
        refine xw_G (pc' := 50) (st' := [.int (x3 + (1 : Int32)), .int x2, .int x1, .ref 302]) rfl rfl trivial ?_
        refine xb_e hf (fun v25 h26 e27 hf => ?_)
        refine xw_V (v := none) rfl rfl (xkf (xs_k hS rfl rfl : xm_k h22 302 = (11, 0))) (Nat.le_of_ble_eq_true rfl) (Nat.le_of_ble_eq_true rfl) (xm_Rn_le (Nat.le_of_ble_eq_true rfl) (t_X11_auction  hS e27).1) ?_
        have hS := (t_X11_auction  hS e27).2
        show xm_W _ _ _ 53 _ [] _
        refine xw_G (pc' := 54) (st' := [.int x3]) rfl rfl trivial ?_
        refine xw_G (pc' := 55) (st' := [.ref 302, .int x3]) rfl rfl trivial ?_
        refine xw_G (pc' := 58) (st' := [.int (xm_i h26 302 28), .int x3]) rfl rfl (xkf (xs_k hS rfl rfl : xm_k h26 302 = (11, 0))) ?_
        refine xj_ic_ge rfl hf (fun hc28 hf => ?_) (fun hc28 hf => ?_)
        · refine xw_G (pc' := 62) (st' := [.ref 302]) rfl rfl trivial ?_
          refine xw_gr rfl (xkf (xs_k hS rfl rfl : xm_k h26 302 = (11, 0))) (xs_r hS rfl) ?_
          refine xw_G (pc' := 66) (st' := [.int x3, .ref 314]) rfl rfl trivial ?_
          refine xg_e hf (fun hg29 hf => ?_)
          refine xa_ld (t := 100) (τ := 0) (v := .int (xm_i h26 314 (Int32.toNatClampNeg x3))) rfl rfl (xkf (xs_k hS rfl rfl : xm_k h26 314 = (100, 4))) (xkn (xs_k hS rfl rfl : xm_k h26 314 = (100, 4))) hg29 rfl ?_
          refine xw_G (pc' := 71) (st' := [.int (xm_i h26 314 (Int32.toNatClampNeg x3))]) rfl rfl trivial ?_
          exact xr_i (inj := xji) rfl rfl rfl rfl hf hQ hS
        · refine xw_G (pc' := 71) (st' := [.int (-1 : Int32)]) rfl rfl trivial ?_
          exact xr_i (inj := xji) rfl rfl rfl rfl hf hQ hS
    · refine xw_G (pc' := 32) (st' := [.int (1 : Int32), .int v1, .ref 302]) rfl rfl trivial ?_
      refine xw_G (pc' := 36) (st' := [.int (1 : Int32), .int v1, .ref 302]) rfl rfl trivial ?_
      refine xb_e hf (fun v30 h31 e32 hf => ?_)
      refine xw_V (v := some (.int v30)) rfl rfl (xkf (xs_k hS rfl rfl : xm_k h18 302 = (11, 0))) (Nat.le_of_ble_eq_true rfl) (Nat.le_of_ble_eq_true rfl) (xm_Rn_le (Nat.le_of_ble_eq_true rfl) (t_X11_good_  hS e32).1) ?_
      have hS := (t_X11_good_  hS e32).2
      show xm_W _ _ _ 39 _ [.int v30] _
      refine xj_if_ne rfl hf (fun hc33 hf => ?_) (fun hc33 hf => ?_)
      · refine xw_G (pc' := 43) (st' := [.int (0 : Int32)]) rfl rfl trivial ?_
        exact xr_i (inj := xji) rfl rfl rfl rfl hf hQ hS
      · refine xw_G (pc' := 45) (st' := [.ref 302]) rfl rfl trivial ?_
        refine xw_G (pc' := 46) (st' := [.int x1, .ref 302]) rfl rfl trivial ?_
        refine xw_G (pc' := 47) (st' := [.int x2, .int x1, .ref 302]) rfl rfl trivial ?_
        refine xw_G (pc' := 48) (st' := [.int x3, .int x2, .int x1, .ref 302]) rfl rfl trivial ?_
        refine xw_G (pc' := 49) (st' := [.int (1 : Int32), .int x3, .int x2, .int x1, .ref 302]) rfl rfl trivial ?_
        refine xw_G (pc' := 50) (st' := [.int (x3 + (1 : Int32)), .int x2, .int x1, .ref 302]) rfl rfl trivial ?_
        refine xb_e hf (fun v34 h35 e36 hf => ?_)
        refine xw_V (v := none) rfl rfl (xkf (xs_k hS rfl rfl : xm_k h31 302 = (11, 0))) (Nat.le_of_ble_eq_true rfl) (Nat.le_of_ble_eq_true rfl) (xm_Rn_le (Nat.le_of_ble_eq_true rfl) (t_X11_auction  hS e36).1) ?_
        have hS := (t_X11_auction  hS e36).2
        show xm_W _ _ _ 53 _ [] _
        refine xw_G (pc' := 54) (st' := [.int x3]) rfl rfl trivial ?_
        refine xw_G (pc' := 55) (st' := [.ref 302, .int x3]) rfl rfl trivial ?_
        refine xw_G (pc' := 58) (st' := [.int (xm_i h35 302 28), .int x3]) rfl rfl (xkf (xs_k hS rfl rfl : xm_k h35 302 = (11, 0))) ?_
        refine xj_ic_ge rfl hf (fun hc37 hf => ?_) (fun hc37 hf => ?_)
        · refine xw_G (pc' := 62) (st' := [.ref 302]) rfl rfl trivial ?_
          refine xw_gr rfl (xkf (xs_k hS rfl rfl : xm_k h35 302 = (11, 0))) (xs_r hS rfl) ?_
          refine xw_G (pc' := 66) (st' := [.int x3, .ref 314]) rfl rfl trivial ?_
          refine xg_e hf (fun hg38 hf => ?_)
          refine xa_ld (t := 100) (τ := 0) (v := .int (xm_i h35 314 (Int32.toNatClampNeg x3))) rfl rfl (xkf (xs_k hS rfl rfl : xm_k h35 314 = (100, 4))) (xkn (xs_k hS rfl rfl : xm_k h35 314 = (100, 4))) hg38 rfl ?_
          refine xw_G (pc' := 71) (st' := [.int (xm_i h35 314 (Int32.toNatClampNeg x3))]) rfl rfl trivial ?_
          exact xr_i (inj := xji) rfl rfl rfl rfl hf hQ hS
        · refine xw_G (pc' := 71) (st' := [.int (-1 : Int32)]) rfl rfl trivial ?_
          exact xr_i (inj := xji) rfl rfl rfl rfl hf hQ hS
def f_X10_requireSlots (ρ : Nat) (x1 : Int32) (h : xm_H) : Option ((Unit ⊕ Nat × Nat) × xm_H) := (xe (f_X10_requireRange x1 (1 : Int32) (xm_i h ρ 3) h) (fun v1 h2 => (some (.inl (), h2))) (fun q4 h5 => (some (.inr q4, h5))))
theorem t_X10_requireSlots {ρ : Nat} {δ : Nat} {x1 : Int32} {h : xm_H} {w : (Unit ⊕ Nat × Nat) × xm_H}  (hS : xS ρ δ h) (hf : f_X10_requireSlots ρ x1 h = some w) : xm_Rn xX 2 128 [.ref 160, .int x1] h (xtv w.1) w.2 ∧ xS ρ δ w.2 := by
  refine xt_mk (φ := fun h => xS ρ δ h) (M := xM_X10_requireSlots) (ls := [some (.ref 160), some (.int x1)]) rfl (Nat.le_of_ble_eq_true rfl) rfl (fun Q hQ => ?_)
  unfold f_X10_requireSlots at hf
  refine xw_G (pc' := 1) (st' := [.int x1]) rfl rfl trivial ?_
  refine xw_G (pc' := 2) (st' := [.int (1 : Int32), .int x1]) rfl rfl trivial ?_
  refine xw_G (pc' := 3) (st' := [.ref 160, .int (1 : Int32), .int x1]) rfl rfl trivial ?_
  refine xw_gr rfl (xkf (xs_k hS rfl rfl : xm_k h 160 = (0, 0))) (xs_r hS rfl) ?_
  refine xw_gr rfl (xkf (xs_k hS rfl rfl : xm_k h 182 = (3, 0))) (xs_rho hS) ?_
  refine xw_G (pc' := 12) (st' := [.int (xm_i h ρ 3), .int (1 : Int32), .int x1]) rfl rfl (xkf (xsR0 hS (xs_R hS))) ?_
  refine xe_e hf (fun v1 h2 e3 hf => ?_) (fun q4 h5 e3 hf => ?_)
  · refine xw_S (v := none) rfl (Nat.le_of_ble_eq_true rfl) (Nat.le_of_ble_eq_true rfl) (xm_Rn_le (Nat.le_of_ble_eq_true rfl) (t_X10_requireRange  hS e3).1) ?_
    have hS := (t_X10_requireRange  hS e3).2
    show xm_W _ _ _ 15 _ [] _
    exact xr_v (inj := xtv) rfl rfl hf hQ hS
  · refine xw_SX (x := q4) rfl (Nat.le_of_ble_eq_true rfl) (Nat.le_of_ble_eq_true rfl) (xm_Rn_le (Nat.le_of_ble_eq_true rfl) (t_X10_requireRange  hS e3).1) rfl ?_
    have hS := (t_X10_requireRange  hS e3).2
    exact xr_x (inj := xtv) rfl hf hQ hS
def f_X2_leastPacedBid_8B (N : Nat) (ρ : Nat) (c1 : Int32) (c2 : Int32) (k82 : Int32 → xm_H → Option (Int32 × xm_H)) (rec : Int32 → Int32 → Int32 → xm_H → Option (Int32 × xm_H)) (c3 : Int32) (c4 : Int32) (c5 : Int32) (h : xm_H) : Option (Int32 × xm_H) := (if c5 < (xm_i h 182 6) then (if xin c5 8 then (if xin (xm_i h 217 (Int32.toNatClampNeg c5)) 8 then (if (xm_i h 217 (Int32.toNatClampNeg c5)) = c1 then (rec c3 c4 (c5 + (1 : Int32)) h) else (if ((xm_i h (ρ + 10 + Int32.toNatClampNeg (xm_i h 217 (Int32.toNatClampNeg c5))) 7) &&& c3) = 0 then (if (c4 + (1 : Int32)) = c2 then (k82 (xm_i h 217 (Int32.toNatClampNeg c5)) h) else (if ((xm_i h (ρ + 10 + Int32.toNatClampNeg (xm_i h 217 (Int32.toNatClampNeg c5))) 7) &&& ((1 : Int32) <<< (c1 &&& 31))) = 0 then (rec (c3 ||| ((1 : Int32) <<< ((xm_i h 217 (Int32.toNatClampNeg c5)) &&& 31))) (c4 + (1 : Int32)) (c5 + (1 : Int32)) h) else (k82 (xm_i h 217 (Int32.toNatClampNeg c5)) h))) else (rec c3 c4 (c5 + (1 : Int32)) h))) else none) else none) else (some ((1 : Int32), h)))
def f_X2_leastPacedBid_8 (N : Nat) (ρ : Nat) (c1 : Int32) (c2 : Int32) (k82 : Int32 → xm_H → Option (Int32 × xm_H)) : Nat → Int32 → Int32 → Int32 → xm_H → Option (Int32 × xm_H)
  | 0 => fun _ _ _ _ => none
  | n + 1 => fun c3 c4 c5 h => f_X2_leastPacedBid_8B N ρ c1 c2 k82 (f_X2_leastPacedBid_8 N ρ c1 c2 k82 n) c3 c4 c5 h
def f_X2_leastPacedBid (N : Nat) (ρ : Nat) (x1 : Int32) (x2 : Int32) (h : xm_H) : Option (Int32 × xm_H) := (f_X2_leastPacedBid_8 N ρ x1 x2 (fun (e1 : Int32) (h2 : xm_H) => (if x1 < e1 then (if xin e1 8 then (some (xm_i h2 216 (Int32.toNatClampNeg e1), h2)) else none) else (if xin e1 8 then (some ((xm_i h2 216 (Int32.toNatClampNeg e1)) + (1 : Int32), h2)) else none))) N (0 : Int32) (0 : Int32) (0 : Int32) h)
theorem tl_X2_leastPacedBid_8 {δ : Nat} {N : Nat} {ρ : Nat} {c1 : Int32} {c2 : Int32} {k82 : Int32 → xm_H → Option (Int32 × xm_H)} {Q : xm_O → xm_H → Prop} {w : Int32 × xm_H}  (hQ : xS ρ δ w.2 → Q (xji w.1) w.2) (hk82 : ∀ (a0 : Int32) (h : xm_H), xS ρ δ h → k82 a0 h = some w → xm_W (xm_Rn xX 0) xM_X2_leastPacedBid Q 82 [some (.ref 182), some (.int c1), none, none, none, none, some (.int a0), none] [] h) : ∀ (n : Nat) (c3 : Int32) (c4 : Int32) (c5 : Int32) (h : xm_H), xS ρ δ h → f_X2_leastPacedBid_8 N ρ c1 c2 k82 n c3 c4 c5 h = some w → xm_W (xm_Rn xX 0) xM_X2_leastPacedBid Q 8 [some (.ref 182), some (.int c1), some (.int c2), some (.int c3), some (.int c4), some (.int c5), none, none] [] h := by
  intro n
  induction n with
  | zero =>
    intro c3 c4 c5 h hS hf
    exact (xn_e hf).elim
  | succ n ih =>
    intro c3 c4 c5 h hS hf
    replace hf : f_X2_leastPacedBid_8B N ρ c1 c2 k82 (f_X2_leastPacedBid_8 N ρ c1 c2 k82 n) c3 c4 c5 h = some w := hf
    unfold f_X2_leastPacedBid_8B at hf
    refine xw_K (pc' := 10) (ls' := [some (.ref 182), some (.int c1), some (.int c2), some (.int c3), some (.int c4), some (.int c5), none, none]) (st' := [.int c5]) rfl rfl trivial ?_
    refine xw_G (pc' := 11) (st' := [.ref 182, .int c5]) rfl rfl trivial ?_
    refine xw_G (pc' := 14) (st' := [.int (xm_i h 182 6), .int c5]) rfl rfl (xkf (xs_k hS rfl rfl : xm_k h 182 = (3, 0))) ?_
    refine xj_ic_ge rfl hf (fun hc1 hf => ?_) (fun hc1 hf => ?_)
    · refine xw_G (pc' := 18) (st' := [.ref 182]) rfl rfl trivial ?_
      refine xw_gr rfl (xkf (xs_k hS rfl rfl : xm_k h 182 = (3, 0))) (xs_r hS rfl) ?_
      refine xw_G (pc' := 23) (st' := [.int c5, .ref 217]) rfl rfl trivial ?_
      refine xg_e hf (fun hg2 hf => ?_)
      refine xa_ld (t := 100) (τ := 0) (v := .int (xm_i h 217 (Int32.toNatClampNeg c5))) rfl rfl (xkf (xs_k hS rfl rfl : xm_k h 217 = (100, 8))) (xkn (xs_k hS rfl rfl : xm_k h 217 = (100, 8))) hg2 rfl ?_
      refine xw_G (pc' := 26) (ls' := [some (.ref 182), some (.int c1), some (.int c2), some (.int c3), some (.int c4), some (.int c5), some (.int (xm_i h 217 (Int32.toNatClampNeg c5))), none]) (st' := []) rfl rfl (Nat.le_of_ble_eq_true rfl) ?_
      refine xw_G (pc' := 27) (st' := [.ref 182]) rfl rfl trivial ?_
      refine xw_gr rfl (xkf (xs_k hS rfl rfl : xm_k h 182 = (3, 0))) (xs_rho hS) ?_
      refine xw_gr rfl (xkf (xsR0 hS (xs_R hS))) (xsRr6 hS (xs_R hS)) ?_
      refine xw_G (pc' := 35) (st' := [.int (xm_i h 217 (Int32.toNatClampNeg c5)), .ref (ρ + 9)]) rfl rfl trivial ?_
      refine xg_e hf (fun hg3 hf => ?_)
      refine xa_ar (b := (ρ + 10 + Int32.toNatClampNeg (xm_i h 217 (Int32.toNatClampNeg c5)))) rfl (xkf (xsR9 hS (xs_R hS))) (xkn (xsR9 hS (xs_R hS))) hg3 (xsCam hS (xs_R hS) hg3) ?_
      refine xw_G (pc' := 39) (st' := [.int (xm_i h (ρ + 10 + Int32.toNatClampNeg (xm_i h 217 (Int32.toNatClampNeg c5))) 7)]) rfl rfl (xkf (xsC hS (xIsC_mk (j := (xm_i h 217 (Int32.toNatClampNeg c5))) (xs_R hS) hg3))) ?_
      refine xw_G (pc' := 41) (ls' := [some (.ref 182), some (.int c1), some (.int c2), some (.int c3), some (.int c4), some (.int c5), some (.int (xm_i h 217 (Int32.toNatClampNeg c5))), some (.int (xm_i h (ρ + 10 + Int32.toNatClampNeg (xm_i h 217 (Int32.toNatClampNeg c5))) 7))]) (st' := []) rfl rfl (Nat.le_of_ble_eq_true rfl) ?_
      refine xw_G (pc' := 43) (st' := [.int (xm_i h 217 (Int32.toNatClampNeg c5))]) rfl rfl trivial ?_
      refine xw_G (pc' := 44) (st' := [.int c1, .int (xm_i h 217 (Int32.toNatClampNeg c5))]) rfl rfl trivial ?_
      refine xj_ic_eq rfl hf (fun hc4 hf => ?_) (fun hc4 hf => ?_)
      · refine xw_G (pc' := 111) (ls' := [some (.ref 182), some (.int c1), some (.int c2), some (.int c3), some (.int c4), some (.int (c5 + (1 : Int32))), some (.int (xm_i h 217 (Int32.toNatClampNeg c5))), some (.int (xm_i h (ρ + 10 + Int32.toNatClampNeg (xm_i h 217 (Int32.toNatClampNeg c5))) 7))]) (st' := []) rfl rfl (Nat.le_of_ble_eq_true rfl) ?_
        refine xw_G (pc' := 8) (st' := []) rfl rfl trivial ?_
        refine xw_M rfl rfl ?_
        exact ih _ _ _ _ hS hf
      · refine xw_G (pc' := 49) (st' := [.int (xm_i h (ρ + 10 + Int32.toNatClampNeg (xm_i h 217 (Int32.toNatClampNeg c5))) 7)]) rfl rfl trivial ?_
        refine xw_G (pc' := 50) (st' := [.int c3, .int (xm_i h (ρ + 10 + Int32.toNatClampNeg (xm_i h 217 (Int32.toNatClampNeg c5))) 7)]) rfl rfl trivial ?_
        refine xw_G (pc' := 51) (st' := [.int ((xm_i h (ρ + 10 + Int32.toNatClampNeg (xm_i h 217 (Int32.toNatClampNeg c5))) 7) &&& c3)]) rfl rfl trivial ?_
        refine xj_if_eq rfl hf (fun hc5 hf => ?_) (fun hc5 hf => ?_)
        · refine xw_G (pc' := 58) (st' := [.int c3]) rfl rfl trivial ?_
          refine xw_G (pc' := 59) (st' := [.int (1 : Int32), .int c3]) rfl rfl trivial ?_
          refine xw_G (pc' := 61) (st' := [.int (xm_i h 217 (Int32.toNatClampNeg c5)), .int (1 : Int32), .int c3]) rfl rfl trivial ?_
          refine xw_G (pc' := 62) (st' := [.int ((1 : Int32) <<< ((xm_i h 217 (Int32.toNatClampNeg c5)) &&& 31)), .int c3]) rfl rfl trivial ?_
          refine xw_G (pc' := 63) (st' := [.int (c3 ||| ((1 : Int32) <<< ((xm_i h 217 (Int32.toNatClampNeg c5)) &&& 31)))]) rfl rfl trivial ?_
          refine xw_G (pc' := 64) (ls' := [some (.ref 182), some (.int c1), some (.int c2), some (.int (c3 ||| ((1 : Int32) <<< ((xm_i h 217 (Int32.toNatClampNeg c5)) &&& 31)))), some (.int c4), some (.int c5), some (.int (xm_i h 217 (Int32.toNatClampNeg c5))), some (.int (xm_i h (ρ + 10 + Int32.toNatClampNeg (xm_i h 217 (Int32.toNatClampNeg c5))) 7))]) (st' := []) rfl rfl (Nat.le_of_ble_eq_true rfl) ?_
          refine xw_G (pc' := 67) (ls' := [some (.ref 182), some (.int c1), some (.int c2), some (.int (c3 ||| ((1 : Int32) <<< ((xm_i h 217 (Int32.toNatClampNeg c5)) &&& 31)))), some (.int (c4 + (1 : Int32))), some (.int c5), some (.int (xm_i h 217 (Int32.toNatClampNeg c5))), some (.int (xm_i h (ρ + 10 + Int32.toNatClampNeg (xm_i h 217 (Int32.toNatClampNeg c5))) 7))]) (st' := []) rfl rfl (Nat.le_of_ble_eq_true rfl) ?_
          refine xw_G (pc' := 69) (st' := [.int (c4 + (1 : Int32))]) rfl rfl trivial ?_
          refine xw_G (pc' := 70) (st' := [.int c2, .int (c4 + (1 : Int32))]) rfl rfl trivial ?_
          refine xj_ic_eq rfl hf (fun hc6 hf => ?_) (fun hc6 hf => ?_)
          · refine xw_M rfl rfl ?_
            exact hk82 _ _ hS hf
          · refine xw_G (pc' := 75) (st' := [.int (xm_i h (ρ + 10 + Int32.toNatClampNeg (xm_i h 217 (Int32.toNatClampNeg c5))) 7)]) rfl rfl trivial ?_
            refine xw_G (pc' := 76) (st' := [.int (1 : Int32), .int (xm_i h (ρ + 10 + Int32.toNatClampNeg (xm_i h 217 (Int32.toNatClampNeg c5))) 7)]) rfl rfl trivial ?_
            refine xw_G (pc' := 77) (st' := [.int c1, .int (1 : Int32), .int (xm_i h (ρ + 10 + Int32.toNatClampNeg (xm_i h 217 (Int32.toNatClampNeg c5))) 7)]) rfl rfl trivial ?_
            refine xw_G (pc' := 78) (st' := [.int ((1 : Int32) <<< (c1 &&& 31)), .int (xm_i h (ρ + 10 + Int32.toNatClampNeg (xm_i h 217 (Int32.toNatClampNeg c5))) 7)]) rfl rfl trivial ?_
            refine xw_G (pc' := 79) (st' := [.int ((xm_i h (ρ + 10 + Int32.toNatClampNeg (xm_i h 217 (Int32.toNatClampNeg c5))) 7) &&& ((1 : Int32) <<< (c1 &&& 31)))]) rfl rfl trivial ?_
            refine xj_if_eq rfl hf (fun hc7 hf => ?_) (fun hc7 hf => ?_)
            · refine xw_G (pc' := 111) (ls' := [some (.ref 182), some (.int c1), some (.int c2), some (.int (c3 ||| ((1 : Int32) <<< ((xm_i h 217 (Int32.toNatClampNeg c5)) &&& 31)))), some (.int (c4 + (1 : Int32))), some (.int (c5 + (1 : Int32))), some (.int (xm_i h 217 (Int32.toNatClampNeg c5))), some (.int (xm_i h (ρ + 10 + Int32.toNatClampNeg (xm_i h 217 (Int32.toNatClampNeg c5))) 7))]) (st' := []) rfl rfl (Nat.le_of_ble_eq_true rfl) ?_
              refine xw_G (pc' := 8) (st' := []) rfl rfl trivial ?_
              refine xw_M rfl rfl ?_
              exact ih _ _ _ _ hS hf
            · refine xw_M rfl rfl ?_
              exact hk82 _ _ hS hf
        · refine xw_G (pc' := 108) (st' := []) rfl rfl trivial ?_
          refine xw_G (pc' := 111) (ls' := [some (.ref 182), some (.int c1), some (.int c2), some (.int c3), some (.int c4), some (.int (c5 + (1 : Int32))), some (.int (xm_i h 217 (Int32.toNatClampNeg c5))), some (.int (xm_i h (ρ + 10 + Int32.toNatClampNeg (xm_i h 217 (Int32.toNatClampNeg c5))) 7))]) (st' := []) rfl rfl (Nat.le_of_ble_eq_true rfl) ?_
          refine xw_G (pc' := 8) (st' := []) rfl rfl trivial ?_
          refine xw_M rfl rfl ?_
          exact ih _ _ _ _ hS hf
    · refine xw_G (pc' := 115) (st' := [.int (1 : Int32)]) rfl rfl trivial ?_
      exact xr_i (inj := xji) rfl rfl rfl rfl hf hQ hS
theorem t_X2_leastPacedBid {N : Nat} {ρ : Nat} {δ : Nat} {x1 : Int32} {x2 : Int32} {h : xm_H} {w : Int32 × xm_H}  (hS : xS ρ δ h) (hf : f_X2_leastPacedBid N ρ x1 x2 h = some w) : xm_Rn xX 1 22 [.ref 182, .int x1, .int x2] h (xji w.1) w.2 ∧ xS ρ δ w.2 := by
  refine xt_mk (φ := fun h => xS ρ δ h) (M := xM_X2_leastPacedBid) (ls := [some (.ref 182), some (.int x1), some (.int x2), none, none, none, none, none]) rfl (Nat.le_of_ble_eq_true rfl) rfl (fun Q hQ => ?_)
  unfold f_X2_leastPacedBid at hf
  refine xw_G (pc' := 1) (st' := [.int (0 : Int32)]) rfl rfl trivial ?_
  refine xw_G (pc' := 2) (ls' := [some (.ref 182), some (.int x1), some (.int x2), some (.int (0 : Int32)), none, none, none, none]) (st' := []) rfl rfl (Nat.le_of_ble_eq_true rfl) ?_
  refine xw_G (pc' := 3) (st' := [.int (0 : Int32)]) rfl rfl trivial ?_
  refine xw_G (pc' := 5) (ls' := [some (.ref 182), some (.int x1), some (.int x2), some (.int (0 : Int32)), some (.int (0 : Int32)), none, none, none]) (st' := []) rfl rfl (Nat.le_of_ble_eq_true rfl) ?_
  refine xw_G (pc' := 6) (st' := [.int (0 : Int32)]) rfl rfl trivial ?_
  refine xw_G (pc' := 8) (ls' := [some (.ref 182), some (.int x1), some (.int x2), some (.int (0 : Int32)), some (.int (0 : Int32)), some (.int (0 : Int32)), none, none]) (st' := []) rfl rfl (Nat.le_of_ble_eq_true rfl) ?_
  refine xw_M rfl rfl ?_
  refine tl_X2_leastPacedBid_8  hQ (fun e1 h2 hS hf => ?_) _ _ _ _ _ hS hf
  refine xw_K (pc' := 83) (ls' := [some (.ref 182), some (.int x1), none, none, none, none, some (.int e1), none]) (st' := [.int x1]) rfl rfl trivial ?_
  refine xw_G (pc' := 85) (st' := [.int e1, .int x1]) rfl rfl trivial ?_
  refine xj_ic_ge rfl hf (fun hc3 hf => ?_) (fun hc3 hf => ?_)
  · refine xw_G (pc' := 89) (st' := [.ref 182]) rfl rfl trivial ?_
    refine xw_gr rfl (xkf (xs_k hS rfl rfl : xm_k h2 182 = (3, 0))) (xs_r hS rfl) ?_
    refine xw_G (pc' := 94) (st' := [.int e1, .ref 216]) rfl rfl trivial ?_
    refine xg_e hf (fun hg4 hf => ?_)
    refine xa_ld (t := 100) (τ := 0) (v := .int (xm_i h2 216 (Int32.toNatClampNeg e1))) rfl rfl (xkf (xs_k hS rfl rfl : xm_k h2 216 = (100, 8))) (xkn (xs_k hS rfl rfl : xm_k h2 216 = (100, 8))) hg4 rfl ?_
    refine xw_G (pc' := 107) (st' := [.int (xm_i h2 216 (Int32.toNatClampNeg e1))]) rfl rfl trivial ?_
    exact xr_i (inj := xji) rfl rfl rfl rfl hf hQ hS
  · refine xw_G (pc' := 99) (st' := [.ref 182]) rfl rfl trivial ?_
    refine xw_gr rfl (xkf (xs_k hS rfl rfl : xm_k h2 182 = (3, 0))) (xs_r hS rfl) ?_
    refine xw_G (pc' := 104) (st' := [.int e1, .ref 216]) rfl rfl trivial ?_
    refine xg_e hf (fun hg5 hf => ?_)
    refine xa_ld (t := 100) (τ := 0) (v := .int (xm_i h2 216 (Int32.toNatClampNeg e1))) rfl rfl (xkf (xs_k hS rfl rfl : xm_k h2 216 = (100, 8))) (xkn (xs_k hS rfl rfl : xm_k h2 216 = (100, 8))) hg5 rfl ?_
    refine xw_G (pc' := 106) (st' := [.int (1 : Int32), .int (xm_i h2 216 (Int32.toNatClampNeg e1))]) rfl rfl trivial ?_
    refine xw_G (pc' := 107) (st' := [.int ((xm_i h2 216 (Int32.toNatClampNeg e1)) + (1 : Int32))]) rfl rfl trivial ?_
    exact xr_i (inj := xji) rfl rfl rfl rfl hf hQ hS
def f_X2_leastWinningBid (N : Nat) (ρ : Nat) (x1 : Int32) (x2 : Int32) (x3 : Int32) (x4 : Int32) (h : xm_H) : Option (Int32 × xm_H) := (if xin x3 6 then (xb (f_X2_rank N ρ x2 x3 (xm_i h 202 (Int32.toNatClampNeg x3)) h) fun v2 h3 => (if xin x1 8 then (if 0 < (xm_i h3 207 (Int32.toNatClampNeg x1)) then (xb (f_X2_leastPacedBid N ρ x1 x4 h3) fun v7 h8 => (if ¬ (xm_i h3 207 (Int32.toNatClampNeg x1)) = 0 then (xb (f_X2_perCent (((((if (xm_i h 202 (Int32.toNatClampNeg x3)) < v7 then v7 else (xm_i h 202 (Int32.toNatClampNeg x3))) - (1 : Int32)) * (100 : Int32)) / (xm_i h3 207 (Int32.toNatClampNeg x1))) + (1 : Int32)) (xm_i h3 207 (Int32.toNatClampNeg x1)) h8) fun v11 h12 => (xb (f_X2_reasonAgainst ρ x1 x3 v11 (xm_i h 202 (Int32.toNatClampNeg x3)) h12) fun v14 h15 => (if v14 = 0 then (if (999 : Int32) < (((((if (xm_i h 202 (Int32.toNatClampNeg x3)) < v7 then v7 else (xm_i h 202 (Int32.toNatClampNeg x3))) - (1 : Int32)) * (100 : Int32)) / (xm_i h3 207 (Int32.toNatClampNeg x1))) + (1 : Int32)) then (some ((-1 : Int32), h15)) else (some (((((if (xm_i h 202 (Int32.toNatClampNeg x3)) < v7 then v7 else (xm_i h 202 (Int32.toNatClampNeg x3))) - (1 : Int32)) * (100 : Int32)) / (xm_i h3 207 (Int32.toNatClampNeg x1))) + (1 : Int32), h15))) else (some ((-1 : Int32), h15))))) else none)) else (some ((-1 : Int32), h3))) else none)) else none)
theorem t_X2_leastWinningBid {N : Nat} {ρ : Nat} {δ : Nat} {x1 : Int32} {x2 : Int32} {x3 : Int32} {x4 : Int32} {h : xm_H} {w : Int32 × xm_H}  (hS : xS ρ δ h) (hf : f_X2_leastWinningBid N ρ x1 x2 x3 x4 h = some w) : xm_Rn xX 4 21 [.ref 182, .int x1, .int x2, .int x3, .int x4] h (xji w.1) w.2 ∧ xS ρ δ w.2 := by
  refine xt_mk (φ := fun h => xS ρ δ h) (M := xM_X2_leastWinningBid) (ls := [some (.ref 182), some (.int x1), some (.int x2), some (.int x3), some (.int x4), none, none, none, none, none]) rfl (Nat.le_of_ble_eq_true rfl) rfl (fun Q hQ => ?_)
  unfold f_X2_leastWinningBid at hf
  refine xw_G (pc' := 1) (st' := [.ref 182]) rfl rfl trivial ?_
  refine xw_gr rfl (xkf (xs_k hS rfl rfl : xm_k h 182 = (3, 0))) (xs_r hS rfl) ?_
  refine xw_gr rfl (xkf (xs_k hS rfl rfl : xm_k h 201 = (8, 0))) (xs_r hS rfl) ?_
  refine xw_G (pc' := 8) (st' := [.int x3, .ref 202]) rfl rfl trivial ?_
  refine xg_e hf (fun hg1 hf => ?_)
  refine xa_ld (t := 100) (τ := 0) (v := .int (xm_i h 202 (Int32.toNatClampNeg x3))) rfl rfl (xkf (xs_k hS rfl rfl : xm_k h 202 = (100, 6))) (xkn (xs_k hS rfl rfl : xm_k h 202 = (100, 6))) hg1 rfl ?_
  refine xw_G (pc' := 11) (ls' := [some (.ref 182), some (.int x1), some (.int x2), some (.int x3), some (.int x4), some (.int (xm_i h 202 (Int32.toNatClampNeg x3))), none, none, none, none]) (st' := []) rfl rfl (Nat.le_of_ble_eq_true rfl) ?_
  refine xw_G (pc' := 12) (st' := [.ref 182]) rfl rfl trivial ?_
  refine xw_G (pc' := 13) (st' := [.int x2, .ref 182]) rfl rfl trivial ?_
  refine xw_G (pc' := 14) (st' := [.int x3, .int x2, .ref 182]) rfl rfl trivial ?_
  refine xw_G (pc' := 16) (st' := [.int (xm_i h 202 (Int32.toNatClampNeg x3)), .int x3, .int x2, .ref 182]) rfl rfl trivial ?_
  refine xb_e hf (fun v2 h3 e4 hf => ?_)
  refine xw_V (v := none) rfl rfl (xkf (xs_k hS rfl rfl : xm_k h 182 = (3, 0))) (Nat.le_of_ble_eq_true rfl) (Nat.le_of_ble_eq_true rfl) (xm_Rn_le (Nat.le_of_ble_eq_true rfl) (t_X2_rank  hS e4).1) ?_
  have hS := (t_X2_rank  hS e4).2
  show xm_W _ _ _ 19 _ [] _
  refine xw_G (pc' := 20) (st' := [.ref 182]) rfl rfl trivial ?_
  refine xw_gr rfl (xkf (xs_k hS rfl rfl : xm_k h3 182 = (3, 0))) (xs_r hS rfl) ?_
  refine xw_gr rfl (xkf (xs_k hS rfl rfl : xm_k h3 201 = (8, 0))) (xs_r hS rfl) ?_
  refine xw_G (pc' := 27) (st' := [.int x1, .ref 207]) rfl rfl trivial ?_
  refine xg_e hf (fun hg5 hf => ?_)
  refine xa_ld (t := 100) (τ := 0) (v := .int (xm_i h3 207 (Int32.toNatClampNeg x1))) rfl rfl (xkf (xs_k hS rfl rfl : xm_k h3 207 = (100, 8))) (xkn (xs_k hS rfl rfl : xm_k h3 207 = (100, 8))) hg5 rfl ?_
  refine xw_G (pc' := 30) (ls' := [some (.ref 182), some (.int x1), some (.int x2), some (.int x3), some (.int x4), some (.int (xm_i h 202 (Int32.toNatClampNeg x3))), some (.int (xm_i h3 207 (Int32.toNatClampNeg x1))), none, none, none]) (st' := []) rfl rfl (Nat.le_of_ble_eq_true rfl) ?_
  refine xw_G (pc' := 32) (st' := [.int (xm_i h3 207 (Int32.toNatClampNeg x1))]) rfl rfl trivial ?_
  refine xj_if_gt rfl hf (fun hc6 hf => ?_) (fun hc6 hf => ?_)
  · refine xw_G (pc' := 39) (st' := [.int (xm_i h 202 (Int32.toNatClampNeg x3))]) rfl rfl trivial ?_
    refine xw_G (pc' := 40) (st' := [.ref 182, .int (xm_i h 202 (Int32.toNatClampNeg x3))]) rfl rfl trivial ?_
    refine xw_G (pc' := 41) (st' := [.int x1, .ref 182, .int (xm_i h 202 (Int32.toNatClampNeg x3))]) rfl rfl trivial ?_
    refine xw_G (pc' := 43) (st' := [.int x4, .int x1, .ref 182, .int (xm_i h 202 (Int32.toNatClampNeg x3))]) rfl rfl trivial ?_
    refine xb_e hf (fun v7 h8 e9 hf => ?_)
    refine xw_V (v := some (.int v7)) rfl rfl (xkf (xs_k hS rfl rfl : xm_k h3 182 = (3, 0))) (Nat.le_of_ble_eq_true rfl) (Nat.le_of_ble_eq_true rfl) (xm_Rn_le (Nat.le_of_ble_eq_true rfl) (t_X2_leastPacedBid  hS e9).1) ?_
    have hS := (t_X2_leastPacedBid  hS e9).2
    show xm_W _ _ _ 46 _ [.int v7, .int (xm_i h 202 (Int32.toNatClampNeg x3))] _
    refine xw_max rfl (Nat.le_of_ble_eq_true rfl) ?_
    refine xw_G (pc' := 51) (ls' := [some (.ref 182), some (.int x1), some (.int x2), some (.int x3), some (.int x4), some (.int (xm_i h 202 (Int32.toNatClampNeg x3))), some (.int (xm_i h3 207 (Int32.toNatClampNeg x1))), some (.int (if (xm_i h 202 (Int32.toNatClampNeg x3)) < v7 then v7 else (xm_i h 202 (Int32.toNatClampNeg x3)))), none, none]) (st' := []) rfl rfl (Nat.le_of_ble_eq_true rfl) ?_
    refine xw_G (pc' := 53) (st' := [.int (if (xm_i h 202 (Int32.toNatClampNeg x3)) < v7 then v7 else (xm_i h 202 (Int32.toNatClampNeg x3)))]) rfl rfl trivial ?_
    refine xw_G (pc' := 54) (st' := [.int (1 : Int32), .int (if (xm_i h 202 (Int32.toNatClampNeg x3)) < v7 then v7 else (xm_i h 202 (Int32.toNatClampNeg x3)))]) rfl rfl trivial ?_
    refine xw_G (pc' := 55) (st' := [.int ((if (xm_i h 202 (Int32.toNatClampNeg x3)) < v7 then v7 else (xm_i h 202 (Int32.toNatClampNeg x3))) - (1 : Int32))]) rfl rfl trivial ?_
    refine xw_G (pc' := 57) (st' := [.int (100 : Int32), .int ((if (xm_i h 202 (Int32.toNatClampNeg x3)) < v7 then v7 else (xm_i h 202 (Int32.toNatClampNeg x3))) - (1 : Int32))]) rfl rfl trivial ?_
    refine xw_G (pc' := 58) (st' := [.int (((if (xm_i h 202 (Int32.toNatClampNeg x3)) < v7 then v7 else (xm_i h 202 (Int32.toNatClampNeg x3))) - (1 : Int32)) * (100 : Int32))]) rfl rfl trivial ?_
    refine xw_G (pc' := 60) (st' := [.int (xm_i h3 207 (Int32.toNatClampNeg x1)), .int (((if (xm_i h 202 (Int32.toNatClampNeg x3)) < v7 then v7 else (xm_i h 202 (Int32.toNatClampNeg x3))) - (1 : Int32)) * (100 : Int32))]) rfl rfl trivial ?_
    refine xg_e hf (fun hg10 hf => ?_)
    refine xw_G (pc' := 61) (st' := [.int ((((if (xm_i h 202 (Int32.toNatClampNeg x3)) < v7 then v7 else (xm_i h 202 (Int32.toNatClampNeg x3))) - (1 : Int32)) * (100 : Int32)) / (xm_i h3 207 (Int32.toNatClampNeg x1)))]) rfl rfl hg10 ?_
    refine xw_G (pc' := 62) (st' := [.int (1 : Int32), .int ((((if (xm_i h 202 (Int32.toNatClampNeg x3)) < v7 then v7 else (xm_i h 202 (Int32.toNatClampNeg x3))) - (1 : Int32)) * (100 : Int32)) / (xm_i h3 207 (Int32.toNatClampNeg x1)))]) rfl rfl trivial ?_
    refine xw_G (pc' := 63) (st' := [.int (((((if (xm_i h 202 (Int32.toNatClampNeg x3)) < v7 then v7 else (xm_i h 202 (Int32.toNatClampNeg x3))) - (1 : Int32)) * (100 : Int32)) / (xm_i h3 207 (Int32.toNatClampNeg x1))) + (1 : Int32))]) rfl rfl trivial ?_
    refine xw_G (pc' := 65) (ls' := [some (.ref 182), some (.int x1), some (.int x2), some (.int x3), some (.int x4), some (.int (xm_i h 202 (Int32.toNatClampNeg x3))), some (.int (xm_i h3 207 (Int32.toNatClampNeg x1))), some (.int (if (xm_i h 202 (Int32.toNatClampNeg x3)) < v7 then v7 else (xm_i h 202 (Int32.toNatClampNeg x3)))), some (.int (((((if (xm_i h 202 (Int32.toNatClampNeg x3)) < v7 then v7 else (xm_i h 202 (Int32.toNatClampNeg x3))) - (1 : Int32)) * (100 : Int32)) / (xm_i h3 207 (Int32.toNatClampNeg x1))) + (1 : Int32))), none]) (st' := []) rfl rfl (Nat.le_of_ble_eq_true rfl) ?_
    refine xw_G (pc' := 66) (st' := [.ref 182]) rfl rfl trivial ?_
    refine xw_G (pc' := 67) (st' := [.int x1, .ref 182]) rfl rfl trivial ?_
    refine xw_G (pc' := 68) (st' := [.int x3, .int x1, .ref 182]) rfl rfl trivial ?_
    refine xw_G (pc' := 70) (st' := [.int (((((if (xm_i h 202 (Int32.toNatClampNeg x3)) < v7 then v7 else (xm_i h 202 (Int32.toNatClampNeg x3))) - (1 : Int32)) * (100 : Int32)) / (xm_i h3 207 (Int32.toNatClampNeg x1))) + (1 : Int32)), .int x3, .int x1, .ref 182]) rfl rfl trivial ?_
    refine xw_G (pc' := 72) (st' := [.int (xm_i h3 207 (Int32.toNatClampNeg x1)), .int (((((if (xm_i h 202 (Int32.toNatClampNeg x3)) < v7 then v7 else (xm_i h 202 (Int32.toNatClampNeg x3))) - (1 : Int32)) * (100 : Int32)) / (xm_i h3 207 (Int32.toNatClampNeg x1))) + (1 : Int32)), .int x3, .int x1, .ref 182]) rfl rfl trivial ?_
    refine xb_e hf (fun v11 h12 e13 hf => ?_)
    refine xw_S (v := some (.int v11)) rfl (Nat.le_of_ble_eq_true rfl) (Nat.le_of_ble_eq_true rfl) (xm_Rn_le (Nat.le_of_ble_eq_true rfl) (t_X2_perCent  hS e13).1) ?_
    have hS := (t_X2_perCent  hS e13).2
    show xm_W _ _ _ 75 _ [.int v11, .int x3, .int x1, .ref 182] _
    refine xw_G (pc' := 77) (st' := [.int (xm_i h 202 (Int32.toNatClampNeg x3)), .int v11, .int x3, .int x1, .ref 182]) rfl rfl trivial ?_
    refine xb_e hf (fun v14 h15 e16 hf => ?_)
    refine xw_V (v := some (.int v14)) rfl rfl (xkf (xs_k hS rfl rfl : xm_k h12 182 = (3, 0))) (Nat.le_of_ble_eq_true rfl) (Nat.le_of_ble_eq_true rfl) (xm_Rn_le (Nat.le_of_ble_eq_true rfl) (t_X2_reasonAgainst  hS e16).1) ?_
    have hS := (t_X2_reasonAgainst  hS e16).2
    show xm_W _ _ _ 80 _ [.int v14] _
    refine xj_if_eq rfl hf (fun hc17 hf => ?_) (fun hc17 hf => ?_)
    · refine xw_G (pc' := 88) (st' := [.int (0 : Int32)]) rfl rfl trivial ?_
      refine xw_G (pc' := 90) (ls' := [some (.ref 182), some (.int x1), some (.int x2), some (.int x3), some (.int x4), some (.int (xm_i h 202 (Int32.toNatClampNeg x3))), some (.int (xm_i h3 207 (Int32.toNatClampNeg x1))), some (.int (if (xm_i h 202 (Int32.toNatClampNeg x3)) < v7 then v7 else (xm_i h 202 (Int32.toNatClampNeg x3)))), some (.int (((((if (xm_i h 202 (Int32.toNatClampNeg x3)) < v7 then v7 else (xm_i h 202 (Int32.toNatClampNeg x3))) - (1 : Int32)) * (100 : Int32)) / (xm_i h3 207 (Int32.toNatClampNeg x1))) + (1 : Int32))), some (.int (0 : Int32))]) (st' := []) rfl rfl (Nat.le_of_ble_eq_true rfl) ?_
      refine xw_G (pc' := 92) (st' := [.int (0 : Int32)]) rfl rfl trivial ?_
      refine xw_G (pc' := 95) (st' := []) rfl rfl trivial ?_
      refine xw_G (pc' := 97) (st' := [.int (((((if (xm_i h 202 (Int32.toNatClampNeg x3)) < v7 then v7 else (xm_i h 202 (Int32.toNatClampNeg x3))) - (1 : Int32)) * (100 : Int32)) / (xm_i h3 207 (Int32.toNatClampNeg x1))) + (1 : Int32))]) rfl rfl trivial ?_
      refine xw_G (pc' := 100) (st' := [.int (999 : Int32), .int (((((if (xm_i h 202 (Int32.toNatClampNeg x3)) < v7 then v7 else (xm_i h 202 (Int32.toNatClampNeg x3))) - (1 : Int32)) * (100 : Int32)) / (xm_i h3 207 (Int32.toNatClampNeg x1))) + (1 : Int32))]) rfl rfl trivial ?_
      refine xj_ic_le rfl hf (fun hc18 hf => ?_) (fun hc18 hf => ?_)
      · refine xw_G (pc' := 104) (st' := [.int (-1 : Int32)]) rfl rfl trivial ?_
        refine xw_G (pc' := 109) (st' := [.int (-1 : Int32)]) rfl rfl trivial ?_
        exact xr_i (inj := xji) rfl rfl rfl rfl hf hQ hS
      · refine xw_G (pc' := 109) (st' := [.int (((((if (xm_i h 202 (Int32.toNatClampNeg x3)) < v7 then v7 else (xm_i h 202 (Int32.toNatClampNeg x3))) - (1 : Int32)) * (100 : Int32)) / (xm_i h3 207 (Int32.toNatClampNeg x1))) + (1 : Int32))]) rfl rfl trivial ?_
        exact xr_i (inj := xji) rfl rfl rfl rfl hf hQ hS
    · refine xw_G (pc' := 84) (st' := [.int (1 : Int32)]) rfl rfl trivial ?_
      refine xw_G (pc' := 88) (st' := [.int (1 : Int32)]) rfl rfl trivial ?_
      refine xw_G (pc' := 90) (ls' := [some (.ref 182), some (.int x1), some (.int x2), some (.int x3), some (.int x4), some (.int (xm_i h 202 (Int32.toNatClampNeg x3))), some (.int (xm_i h3 207 (Int32.toNatClampNeg x1))), some (.int (if (xm_i h 202 (Int32.toNatClampNeg x3)) < v7 then v7 else (xm_i h 202 (Int32.toNatClampNeg x3)))), some (.int (((((if (xm_i h 202 (Int32.toNatClampNeg x3)) < v7 then v7 else (xm_i h 202 (Int32.toNatClampNeg x3))) - (1 : Int32)) * (100 : Int32)) / (xm_i h3 207 (Int32.toNatClampNeg x1))) + (1 : Int32))), some (.int (1 : Int32))]) (st' := []) rfl rfl (Nat.le_of_ble_eq_true rfl) ?_
      refine xw_G (pc' := 92) (st' := [.int (1 : Int32)]) rfl rfl trivial ?_
      refine xw_G (pc' := 103) (st' := []) rfl rfl trivial ?_
      refine xw_G (pc' := 104) (st' := [.int (-1 : Int32)]) rfl rfl trivial ?_
      refine xw_G (pc' := 109) (st' := [.int (-1 : Int32)]) rfl rfl trivial ?_
      exact xr_i (inj := xji) rfl rfl rfl rfl hf hQ hS
  · refine xw_G (pc' := 36) (st' := [.int (-1 : Int32)]) rfl rfl trivial ?_
    exact xr_i (inj := xji) rfl rfl rfl rfl hf hQ hS
def f_X10_leastBid (N : Nat) (ρ : Nat) (x1 : Int32) (x2 : Int32) (x3 : Int32) (x4 : Int32) (h : xm_H) : Option ((Int32 ⊕ Nat × Nat) × xm_H) := (xe (f_X10_requireCampaign ρ x1 h) (fun v1 h2 => (xe (f_X10_requireTag ρ x3 h2) (fun v4 h5 => (xe (f_X10_requireUser x2 h5) (fun v7 h8 => (xe (f_X10_requireSlots ρ x4 h8) (fun v10 h11 => (xb (f_X2_leastWinningBid N ρ x1 x2 x3 x4 h11) fun v13 h14 => (some (.inl v13, h14)))) (fun q16 h17 => (some (.inr q16, h17))))) (fun q19 h20 => (some (.inr q19, h20))))) (fun q22 h23 => (some (.inr q22, h23))))) (fun q25 h26 => (some (.inr q25, h26))))
theorem t_X10_leastBid {N : Nat} {ρ : Nat} {δ : Nat} {x1 : Int32} {x2 : Int32} {x3 : Int32} {x4 : Int32} {h : xm_H} {w : (Int32 ⊕ Nat × Nat) × xm_H}  (hS : xS ρ δ h) (hf : f_X10_leastBid N ρ x1 x2 x3 x4 h = some w) : xm_Rn xX 5 93 [.ref 160, .int x1, .int x2, .int x3, .int x4] h (xti w.1) w.2 ∧ xS ρ δ w.2 := by
  refine xt_mk (φ := fun h => xS ρ δ h) (M := xM_X10_leastBid) (ls := [some (.ref 160), some (.int x1), some (.int x2), some (.int x3), some (.int x4)]) rfl (Nat.le_of_ble_eq_true rfl) rfl (fun Q hQ => ?_)
  unfold f_X10_leastBid at hf
  refine xw_G (pc' := 1) (st' := [.ref 160]) rfl rfl trivial ?_
  refine xw_G (pc' := 2) (st' := [.int x1, .ref 160]) rfl rfl trivial ?_
  refine xe_e hf (fun v1 h2 e3 hf => ?_) (fun q25 h26 e3 hf => ?_)
  · refine xw_V (v := none) rfl rfl (xkf (xs_k hS rfl rfl : xm_k h 160 = (0, 0))) (Nat.le_of_ble_eq_true rfl) (Nat.le_of_ble_eq_true rfl) (xm_Rn_le (Nat.le_of_ble_eq_true rfl) (t_X10_requireCampaign  hS e3).1) ?_
    have hS := (t_X10_requireCampaign  hS e3).2
    show xm_W _ _ _ 5 _ [] _
    refine xw_G (pc' := 6) (st' := [.ref 160]) rfl rfl trivial ?_
    refine xw_G (pc' := 7) (st' := [.int x3, .ref 160]) rfl rfl trivial ?_
    refine xe_e hf (fun v4 h5 e6 hf => ?_) (fun q22 h23 e6 hf => ?_)
    · refine xw_V (v := none) rfl rfl (xkf (xs_k hS rfl rfl : xm_k h2 160 = (0, 0))) (Nat.le_of_ble_eq_true rfl) (Nat.le_of_ble_eq_true rfl) (xm_Rn_le (Nat.le_of_ble_eq_true rfl) (t_X10_requireTag  hS e6).1) ?_
      have hS := (t_X10_requireTag  hS e6).2
      show xm_W _ _ _ 10 _ [] _
      refine xw_G (pc' := 11) (st' := [.int x2]) rfl rfl trivial ?_
      refine xe_e hf (fun v7 h8 e9 hf => ?_) (fun q19 h20 e9 hf => ?_)
      · refine xw_S (v := none) rfl (Nat.le_of_ble_eq_true rfl) (Nat.le_of_ble_eq_true rfl) (xm_Rn_le (Nat.le_of_ble_eq_true rfl) (t_X10_requireUser  hS e9).1) ?_
        have hS := (t_X10_requireUser  hS e9).2
        show xm_W _ _ _ 14 _ [] _
        refine xw_G (pc' := 15) (st' := [.ref 160]) rfl rfl trivial ?_
        refine xw_G (pc' := 17) (st' := [.int x4, .ref 160]) rfl rfl trivial ?_
        refine xe_e hf (fun v10 h11 e12 hf => ?_) (fun q16 h17 e12 hf => ?_)
        · refine xw_V (v := none) rfl rfl (xkf (xs_k hS rfl rfl : xm_k h8 160 = (0, 0))) (Nat.le_of_ble_eq_true rfl) (Nat.le_of_ble_eq_true rfl) (xm_Rn_le (Nat.le_of_ble_eq_true rfl) (t_X10_requireSlots  hS e12).1) ?_
          have hS := (t_X10_requireSlots  hS e12).2
          show xm_W _ _ _ 20 _ [] _
          refine xw_G (pc' := 21) (st' := [.ref 160]) rfl rfl trivial ?_
          refine xw_gr rfl (xkf (xs_k hS rfl rfl : xm_k h11 160 = (0, 0))) (xs_r hS rfl) ?_
          refine xw_G (pc' := 25) (st' := [.int x1, .ref 182]) rfl rfl trivial ?_
          refine xw_G (pc' := 26) (st' := [.int x2, .int x1, .ref 182]) rfl rfl trivial ?_
          refine xw_G (pc' := 27) (st' := [.int x3, .int x2, .int x1, .ref 182]) rfl rfl trivial ?_
          refine xw_G (pc' := 29) (st' := [.int x4, .int x3, .int x2, .int x1, .ref 182]) rfl rfl trivial ?_
          refine xb_e hf (fun v13 h14 e15 hf => ?_)
          refine xw_V (v := some (.int v13)) rfl rfl (xkf (xs_k hS rfl rfl : xm_k h11 182 = (3, 0))) (Nat.le_of_ble_eq_true rfl) (Nat.le_of_ble_eq_true rfl) (xm_Rn_le (Nat.le_of_ble_eq_true rfl) (t_X2_leastWinningBid  hS e15).1) ?_
          have hS := (t_X2_leastWinningBid  hS e15).2
          show xm_W _ _ _ 32 _ [.int v13] _
          exact xr_i (inj := xti) rfl rfl rfl rfl hf hQ hS
        · refine xw_VX (x := q16) rfl rfl (xkf (xs_k hS rfl rfl : xm_k h8 160 = (0, 0))) (Nat.le_of_ble_eq_true rfl) (Nat.le_of_ble_eq_true rfl) (xm_Rn_le (Nat.le_of_ble_eq_true rfl) (t_X10_requireSlots  hS e12).1) rfl ?_
          have hS := (t_X10_requireSlots  hS e12).2
          exact xr_x (inj := xti) rfl hf hQ hS
      · refine xw_SX (x := q19) rfl (Nat.le_of_ble_eq_true rfl) (Nat.le_of_ble_eq_true rfl) (xm_Rn_le (Nat.le_of_ble_eq_true rfl) (t_X10_requireUser  hS e9).1) rfl ?_
        have hS := (t_X10_requireUser  hS e9).2
        exact xr_x (inj := xti) rfl hf hQ hS
    · refine xw_VX (x := q22) rfl rfl (xkf (xs_k hS rfl rfl : xm_k h2 160 = (0, 0))) (Nat.le_of_ble_eq_true rfl) (Nat.le_of_ble_eq_true rfl) (xm_Rn_le (Nat.le_of_ble_eq_true rfl) (t_X10_requireTag  hS e6).1) rfl ?_
      have hS := (t_X10_requireTag  hS e6).2
      exact xr_x (inj := xti) rfl hf hQ hS
  · refine xw_VX (x := q25) rfl rfl (xkf (xs_k hS rfl rfl : xm_k h 160 = (0, 0))) (Nat.le_of_ble_eq_true rfl) (Nat.le_of_ble_eq_true rfl) (xm_Rn_le (Nat.le_of_ble_eq_true rfl) (t_X10_requireCampaign  hS e3).1) rfl ?_
    have hS := (t_X10_requireCampaign  hS e3).2
    exact xr_x (inj := xti) rfl hf hQ hS
def f_L_leastBid (N : Nat) (ρ : Nat) (x1 : Int32) (x2 : Int32) (x3 : Int32) (x4 : Int32) (h : xm_H) : Option (Int32 × xm_H) := (xe (f_X10_leastBid N ρ x1 x2 x3 x4 h) (fun v1 h2 => (xl (xm_sl h2 316 0 (Int32.toInt64 v1)) fun h4 => (some ((0 : Int32), h4)))) (fun q6 h7 => (if (q6).1 = 14 then (some ((1 : Int32), h7)) else (if (q6).1 = 15 then (some ((2 : Int32), h7)) else none))))
theorem t_L_leastBid {N : Nat} {ρ : Nat} {δ : Nat} {x1 : Int32} {x2 : Int32} {x3 : Int32} {x4 : Int32} {h : xm_H} {w : Int32 × xm_H}  (hS : xS ρ δ h) (hf : f_L_leastBid N ρ x1 x2 x3 x4 h = some w) : xm_Rn xX 6 340 [.ref 160, .int x1, .int x2, .int x3, .int x4, .ref 316] h (xji w.1) w.2 ∧ xS ρ δ w.2 := by
  refine xt_mk (φ := fun h => xS ρ δ h) (M := xM_L_leastBid) (ls := [some (.ref 160), some (.int x1), some (.int x2), some (.int x3), some (.int x4), some (.ref 316), none]) rfl (Nat.le_of_ble_eq_true rfl) rfl (fun Q hQ => ?_)
  unfold f_L_leastBid at hf
  refine xw_G (pc' := 2) (st' := [.ref 316]) rfl rfl trivial ?_
  refine xw_G (pc' := 3) (st' := [.int (0 : Int32), .ref 316]) rfl rfl trivial ?_
  refine xw_G (pc' := 4) (st' := [.ref 160, .int (0 : Int32), .ref 316]) rfl rfl trivial ?_
  refine xw_G (pc' := 5) (st' := [.int x1, .ref 160, .int (0 : Int32), .ref 316]) rfl rfl trivial ?_
  refine xw_G (pc' := 6) (st' := [.int x2, .int x1, .ref 160, .int (0 : Int32), .ref 316]) rfl rfl trivial ?_
  refine xw_G (pc' := 7) (st' := [.int x3, .int x2, .int x1, .ref 160, .int (0 : Int32), .ref 316]) rfl rfl trivial ?_
  refine xw_G (pc' := 9) (st' := [.int x4, .int x3, .int x2, .int x1, .ref 160, .int (0 : Int32), .ref 316]) rfl rfl trivial ?_
  refine xe_e hf (fun v1 h2 e3 hf => ?_) (fun q6 h7 e3 hf => ?_)
  · refine xw_V (v := some (.int v1)) rfl rfl (xkf (xs_k hS rfl rfl : xm_k h 160 = (0, 0))) (Nat.le_of_ble_eq_true rfl) (Nat.le_of_ble_eq_true rfl) (xm_Rn_le (Nat.le_of_ble_eq_true rfl) (t_X10_leastBid  hS e3).1) ?_
    have hS := (t_X10_leastBid  hS e3).2
    show xm_W _ _ _ 12 _ [.int v1, .int (0 : Int32), .ref 316] _
    refine xw_G (pc' := 13) (st' := [.long (Int32.toInt64 v1), .int (0 : Int32), .ref 316]) rfl rfl trivial ?_
    refine xa_l rfl (xkf (xs_k hS rfl rfl : xm_k h2 316 = (104, 1))) (xkn (xs_k hS rfl rfl : xm_k h2 316 = (104, 1))) (by decide : xin (0 : Int32) 1) (Nat.le_of_ble_eq_true rfl) hf (fun h4 e5 hf => ?_)
    have hS := xS_sl hS e5
    refine xw_G (pc' := 25) (st' := []) rfl rfl trivial ?_
    refine xw_G (pc' := 26) (st' := [.int (0 : Int32)]) rfl rfl trivial ?_
    exact xr_i (inj := xji) rfl rfl rfl rfl hf hQ hS
  · by_cases hc8 : (q6).1 = 14
    · rw [if_pos hc8] at hf
      refine xw_VH (x := q6) (p := 17) rfl rfl (xkf (xs_k hS rfl rfl : xm_k h 160 = (0, 0))) (Nat.le_of_ble_eq_true rfl) (Nat.le_of_ble_eq_true rfl) (xm_Rn_le (Nat.le_of_ble_eq_true rfl) (t_X10_leastBid  hS e3).1) (by rw [hc8]; rfl) ?_
      have hS := (t_X10_leastBid  hS e3).2
      refine xw_G (pc' := 19) (ls' := [some (.ref 160), some (.int x1), some (.int x2), some (.int x3), some (.int x4), some (.ref 316), some (.ref ((q6).2))]) (st' := []) rfl rfl (Nat.le_of_ble_eq_true rfl) ?_
      refine xw_G (pc' := 20) (st' := [.int (1 : Int32)]) rfl rfl trivial ?_
      exact xr_i (inj := xji) rfl rfl rfl rfl hf hQ hS
    · rw [if_neg hc8] at hf
      by_cases hc8 : (q6).1 = 15
      · rw [if_pos hc8] at hf
        refine xw_VH (x := q6) (p := 21) rfl rfl (xkf (xs_k hS rfl rfl : xm_k h 160 = (0, 0))) (Nat.le_of_ble_eq_true rfl) (Nat.le_of_ble_eq_true rfl) (xm_Rn_le (Nat.le_of_ble_eq_true rfl) (t_X10_leastBid  hS e3).1) (by rw [hc8]; rfl) ?_
        have hS := (t_X10_leastBid  hS e3).2
        refine xw_G (pc' := 23) (ls' := [some (.ref 160), some (.int x1), some (.int x2), some (.int x3), some (.int x4), some (.ref 316), some (.ref ((q6).2))]) (st' := []) rfl rfl (Nat.le_of_ble_eq_true rfl) ?_
        refine xw_G (pc' := 24) (st' := [.int (2 : Int32)]) rfl rfl trivial ?_
        exact xr_i (inj := xji) rfl rfl rfl rfl hf hQ hS
      · rw [if_neg hc8] at hf
        exact (xn_e hf).elim
def f_X11_areSlots (x1 : Int32) (h : xm_H) : Option (Int32 × xm_H) := (xb (f_X11_between (Int32.toInt64 x1) (1 : Int64) (Int32.toInt64 (xm_i h 308 2)) h) fun v1 h2 => (if v1 = 0 ∨ v1 = 1 then (some (v1, h2)) else none))
theorem t_X11_areSlots {ρ : Nat} {δ : Nat} {x1 : Int32} {h : xm_H} {w : Int32 × xm_H}  (hS : xS ρ δ h) (hf : f_X11_areSlots x1 h = some w) : xm_Rn xX 2 170 [.ref 302, .int x1] h (xji w.1) w.2 ∧ xS ρ δ w.2 := by
  refine xt_mk (φ := fun h => xS ρ δ h) (M := xM_X11_areSlots) (ls := [some (.ref 302), some (.int x1)]) rfl (Nat.le_of_ble_eq_true rfl) rfl (fun Q hQ => ?_)
  unfold f_X11_areSlots at hf
  refine xw_G (pc' := 1) (st' := [.int x1]) rfl rfl trivial ?_
  refine xw_G (pc' := 2) (st' := [.long (Int32.toInt64 x1)]) rfl rfl trivial ?_
  refine xw_G (pc' := 3) (st' := [.long (1 : Int64), .long (Int32.toInt64 x1)]) rfl rfl trivial ?_
  refine xw_G (pc' := 4) (st' := [.ref 302, .long (1 : Int64), .long (Int32.toInt64 x1)]) rfl rfl trivial ?_
  refine xw_gr rfl (xkf (xs_k hS rfl rfl : xm_k h 302 = (11, 0))) (xs_r hS rfl) ?_
  refine xw_G (pc' := 8) (st' := [.int (2 : Int32), .ref 308, .long (1 : Int64), .long (Int32.toInt64 x1)]) rfl rfl trivial ?_
  refine xa_ld (t := 100) (τ := 0) (v := .int (xm_i h 308 2)) rfl rfl (xkf (xs_k hS rfl rfl : xm_k h 308 = (100, 72))) (xkn (xs_k hS rfl rfl : xm_k h 308 = (100, 72))) (by decide : xin (2 : Int32) 72) rfl ?_
  refine xw_G (pc' := 10) (st' := [.long (Int32.toInt64 (xm_i h 308 2)), .long (1 : Int64), .long (Int32.toInt64 x1)]) rfl rfl trivial ?_
  refine xb_e hf (fun v1 h2 e3 hf => ?_)
  refine xw_S (v := some (.int v1)) rfl (Nat.le_of_ble_eq_true rfl) (Nat.le_of_ble_eq_true rfl) (xm_Rn_le (Nat.le_of_ble_eq_true rfl) (t_X11_between  hS e3).1) ?_
  have hS := (t_X11_between  hS e3).2
  show xm_W _ _ _ 13 _ [.int v1] _
  refine xg_e hf (fun hg4 hf => ?_)
  exact xr_i (inj := xji) rfl rfl (xnar_z hg4).1 rfl hf hQ hS
def f_X11_isRequest (x1 : Int32) (x2 : Int32) (h : xm_H) : Option (Int32 × xm_H) := (xb (f_X11_isUser x1 h) fun v1 h2 => (if v1 = 0 then (some ((0 : Int32), h2)) else (xb (f_X11_areSlots x2 h2) fun v5 h6 => (if v5 = 0 then (some ((0 : Int32), h6)) else (some ((1 : Int32), h6))))))
theorem t_X11_isRequest {ρ : Nat} {δ : Nat} {x1 : Int32} {x2 : Int32} {h : xm_H} {w : Int32 × xm_H}  (hS : xS ρ δ h) (hf : f_X11_isRequest x1 x2 h = some w) : xm_Rn xX 3 199 [.ref 302, .int x1, .int x2] h (xji w.1) w.2 ∧ xS ρ δ w.2 := by
  refine xt_mk (φ := fun h => xS ρ δ h) (M := xM_X11_isRequest) (ls := [some (.ref 302), some (.int x1), some (.int x2)]) rfl (Nat.le_of_ble_eq_true rfl) rfl (fun Q hQ => ?_)
  unfold f_X11_isRequest at hf
  refine xw_G (pc' := 1) (st' := [.int x1]) rfl rfl trivial ?_
  refine xb_e hf (fun v1 h2 e3 hf => ?_)
  refine xw_S (v := some (.int v1)) rfl (Nat.le_of_ble_eq_true rfl) (Nat.le_of_ble_eq_true rfl) (xm_Rn_le (Nat.le_of_ble_eq_true rfl) (t_X11_isUser  hS e3).1) ?_
  have hS := (t_X11_isUser  hS e3).2
  show xm_W _ _ _ 4 _ [.int v1] _
  refine xj_if_eq rfl hf (fun hc4 hf => ?_) (fun hc4 hf => ?_)
  · refine xw_G (pc' := 20) (st' := [.int (0 : Int32)]) rfl rfl trivial ?_
    exact xr_i (inj := xji) rfl rfl rfl rfl hf hQ hS
  · refine xw_G (pc' := 8) (st' := [.ref 302]) rfl rfl trivial ?_
    refine xw_G (pc' := 9) (st' := [.int x2, .ref 302]) rfl rfl trivial ?_
    refine xb_e hf (fun v5 h6 e7 hf => ?_)
    refine xw_V (v := some (.int v5)) rfl rfl (xkf (xs_k hS rfl rfl : xm_k h2 302 = (11, 0))) (Nat.le_of_ble_eq_true rfl) (Nat.le_of_ble_eq_true rfl) (xm_Rn_le (Nat.le_of_ble_eq_true rfl) (t_X11_areSlots  hS e7).1) ?_
    have hS := (t_X11_areSlots  hS e7).2
    show xm_W _ _ _ 12 _ [.int v5] _
    refine xj_if_eq rfl hf (fun hc8 hf => ?_) (fun hc8 hf => ?_)
    · refine xw_G (pc' := 20) (st' := [.int (0 : Int32)]) rfl rfl trivial ?_
      exact xr_i (inj := xji) rfl rfl rfl rfl hf hQ hS
    · refine xw_G (pc' := 16) (st' := [.int (1 : Int32)]) rfl rfl trivial ?_
      refine xw_G (pc' := 20) (st' := [.int (1 : Int32)]) rfl rfl trivial ?_
      exact xr_i (inj := xji) rfl rfl rfl rfl hf hQ hS
def f_X11_isWinner_4B (N : Nat) (c1 : Int32) (rec : Int32 → Int32 → xm_H → Option (Int32 × xm_H)) (c2 : Int32) (c3 : Int32) (h : xm_H) : Option (Int32 × xm_H) := (if c3 < (xm_i h 302 28) then (if c2 = 0 then (if xin c3 4 then (if (xm_i h 313 (Int32.toNatClampNeg c3)) = c1 then (rec (1 : Int32) (c3 + (1 : Int32)) h) else (rec (0 : Int32) (c3 + (1 : Int32)) h)) else none) else (rec (1 : Int32) (c3 + (1 : Int32)) h)) else (if c2 = 0 ∨ c2 = 1 then (some (c2, h)) else none))
def f_X11_isWinner_4 (N : Nat) (c1 : Int32) : Nat → Int32 → Int32 → xm_H → Option (Int32 × xm_H)
  | 0 => fun _ _ _ => none
  | n + 1 => fun c2 c3 h => f_X11_isWinner_4B N c1 (f_X11_isWinner_4 N c1 n) c2 c3 h
def f_X11_isWinner (N : Nat) (x1 : Int32) (h : xm_H) : Option (Int32 × xm_H) := (f_X11_isWinner_4 N x1 N (0 : Int32) (0 : Int32) h)
theorem tl_X11_isWinner_4 {ρ : Nat} {δ : Nat} {N : Nat} {c1 : Int32} {Q : xm_O → xm_H → Prop} {w : Int32 × xm_H}  (hQ : xS ρ δ w.2 → Q (xji w.1) w.2)  : ∀ (n : Nat) (c2 : Int32) (c3 : Int32) (h : xm_H), xS ρ δ h → f_X11_isWinner_4 N c1 n c2 c3 h = some w → xm_W (xm_Rn xX 0) xM_X11_isWinner Q 4 [some (.ref 302), some (.int c1), some (.int c2), some (.int c3)] [] h := by
  intro n
  induction n with
  | zero =>
    intro c2 c3 h hS hf
    exact (xn_e hf).elim
  | succ n ih =>
    intro c2 c3 h hS hf
    replace hf : f_X11_isWinner_4B N c1 (f_X11_isWinner_4 N c1 n) c2 c3 h = some w := hf
    unfold f_X11_isWinner_4B at hf
    refine xw_K (pc' := 5) (ls' := [some (.ref 302), some (.int c1), some (.int c2), some (.int c3)]) (st' := [.int c3]) rfl rfl trivial ?_
    refine xw_G (pc' := 6) (st' := [.ref 302, .int c3]) rfl rfl trivial ?_
    refine xw_G (pc' := 9) (st' := [.int (xm_i h 302 28), .int c3]) rfl rfl (xkf (xs_k hS rfl rfl : xm_k h 302 = (11, 0))) ?_
    refine xj_ic_ge rfl hf (fun hc1 hf => ?_) (fun hc1 hf => ?_)
    · refine xw_G (pc' := 13) (st' := [.int c2]) rfl rfl trivial ?_
      refine xj_if_ne rfl hf (fun hc2 hf => ?_) (fun hc2 hf => ?_)
      · refine xw_G (pc' := 17) (st' := [.ref 302]) rfl rfl trivial ?_
        refine xw_gr rfl (xkf (xs_k hS rfl rfl : xm_k h 302 = (11, 0))) (xs_r hS rfl) ?_
        refine xw_G (pc' := 21) (st' := [.int c3, .ref 313]) rfl rfl trivial ?_
        refine xg_e hf (fun hg3 hf => ?_)
        refine xa_ld (t := 100) (τ := 0) (v := .int (xm_i h 313 (Int32.toNatClampNeg c3))) rfl rfl (xkf (xs_k hS rfl rfl : xm_k h 313 = (100, 4))) (xkn (xs_k hS rfl rfl : xm_k h 313 = (100, 4))) hg3 rfl ?_
        refine xw_G (pc' := 23) (st' := [.int c1, .int (xm_i h 313 (Int32.toNatClampNeg c3))]) rfl rfl trivial ?_
        refine xj_ic_ne rfl hf (fun hc4 hf => ?_) (fun hc4 hf => ?_)
        · refine xw_G (pc' := 27) (st' := [.int (1 : Int32)]) rfl rfl trivial ?_
          refine xw_G (pc' := 31) (st' := [.int (1 : Int32)]) rfl rfl trivial ?_
          refine xw_G (pc' := 32) (ls' := [some (.ref 302), some (.int c1), some (.int (1 : Int32)), some (.int c3)]) (st' := []) rfl rfl (Nat.le_of_ble_eq_true rfl) ?_
          refine xw_G (pc' := 35) (ls' := [some (.ref 302), some (.int c1), some (.int (1 : Int32)), some (.int (c3 + (1 : Int32)))]) (st' := []) rfl rfl (Nat.le_of_ble_eq_true rfl) ?_
          refine xw_G (pc' := 4) (st' := []) rfl rfl trivial ?_
          refine xw_M rfl rfl ?_
          exact ih _ _ _ hS hf
        · refine xw_G (pc' := 31) (st' := [.int (0 : Int32)]) rfl rfl trivial ?_
          refine xw_G (pc' := 32) (ls' := [some (.ref 302), some (.int c1), some (.int (0 : Int32)), some (.int c3)]) (st' := []) rfl rfl (Nat.le_of_ble_eq_true rfl) ?_
          refine xw_G (pc' := 35) (ls' := [some (.ref 302), some (.int c1), some (.int (0 : Int32)), some (.int (c3 + (1 : Int32)))]) (st' := []) rfl rfl (Nat.le_of_ble_eq_true rfl) ?_
          refine xw_G (pc' := 4) (st' := []) rfl rfl trivial ?_
          refine xw_M rfl rfl ?_
          exact ih _ _ _ hS hf
      · refine xw_G (pc' := 27) (st' := [.int (1 : Int32)]) rfl rfl trivial ?_
        refine xw_G (pc' := 31) (st' := [.int (1 : Int32)]) rfl rfl trivial ?_
        refine xw_G (pc' := 32) (ls' := [some (.ref 302), some (.int c1), some (.int (1 : Int32)), some (.int c3)]) (st' := []) rfl rfl (Nat.le_of_ble_eq_true rfl) ?_
        refine xw_G (pc' := 35) (ls' := [some (.ref 302), some (.int c1), some (.int (1 : Int32)), some (.int (c3 + (1 : Int32)))]) (st' := []) rfl rfl (Nat.le_of_ble_eq_true rfl) ?_
        refine xw_G (pc' := 4) (st' := []) rfl rfl trivial ?_
        refine xw_M rfl rfl ?_
        exact ih _ _ _ hS hf
    · refine xw_G (pc' := 39) (st' := [.int c2]) rfl rfl trivial ?_
      refine xg_e hf (fun hg5 hf => ?_)
      exact xr_i (inj := xji) rfl rfl (xnar_z hg5).1 rfl hf hQ hS
theorem t_X11_isWinner {N : Nat} {ρ : Nat} {δ : Nat} {x1 : Int32} {h : xm_H} {w : Int32 × xm_H}  (hS : xS ρ δ h) (hf : f_X11_isWinner N x1 h = some w) : xm_Rn xX 1 204 [.ref 302, .int x1] h (xji w.1) w.2 ∧ xS ρ δ w.2 := by
  refine xt_mk (φ := fun h => xS ρ δ h) (M := xM_X11_isWinner) (ls := [some (.ref 302), some (.int x1), none, none]) rfl (Nat.le_of_ble_eq_true rfl) rfl (fun Q hQ => ?_)
  unfold f_X11_isWinner at hf
  refine xw_G (pc' := 1) (st' := [.int (0 : Int32)]) rfl rfl trivial ?_
  refine xw_G (pc' := 2) (ls' := [some (.ref 302), some (.int x1), some (.int (0 : Int32)), none]) (st' := []) rfl rfl (Nat.le_of_ble_eq_true rfl) ?_
  refine xw_G (pc' := 3) (st' := [.int (0 : Int32)]) rfl rfl trivial ?_
  refine xw_G (pc' := 4) (ls' := [some (.ref 302), some (.int x1), some (.int (0 : Int32)), some (.int (0 : Int32))]) (st' := []) rfl rfl (Nat.le_of_ble_eq_true rfl) ?_
  refine xw_M rfl rfl ?_
  refine tl_X11_isWinner_4  hQ  _ _ _ _ hS hf
def f_X11_leastBid_51B (N : Nat) (c1 : Int32) (c2 : Int32) (c3 : Int32) (c4 : Int32) (c5 : Int32) (k103 : Int32 → xm_H → Option (Int32 × xm_H)) (rec : Int32 → Int32 → xm_H → Option (Int32 × xm_H)) (c6 : Int32) (c7 : Int32) (h : xm_H) : Option (Int32 × xm_H) := (if (999 : Int32) < c7 then (k103 c6 h) else (if c6 = (-1 : Int32) then (xb (f_X11_set c1 (0 : Int32) c7 h) fun v3 h4 => (xb (f_X11_auction N c2 c3 c4 h4) fun v6 h7 => (xb (f_X11_isWinner N c1 h7) fun v9 h10 => (if v9 = 0 then (rec (-1 : Int32) (c7 + (1 : Int32)) h10) else (rec c7 (c7 + (1 : Int32)) h10))))) else (k103 c6 h)))
def f_X11_leastBid_51 (N : Nat) (c1 : Int32) (c2 : Int32) (c3 : Int32) (c4 : Int32) (c5 : Int32) (k103 : Int32 → xm_H → Option (Int32 × xm_H)) : Nat → Int32 → Int32 → xm_H → Option (Int32 × xm_H)
  | 0 => fun _ _ _ => none
  | n + 1 => fun c6 c7 h => f_X11_leastBid_51B N c1 c2 c3 c4 c5 k103 (f_X11_leastBid_51 N c1 c2 c3 c4 c5 k103 n) c6 c7 h
def f_X11_leastBid (N : Nat) (x1 : Int32) (x2 : Int32) (x3 : Int32) (x4 : Int32) (h : xm_H) : Option (Int32 × xm_H) := (xb (f_X11_isCampaign x1 h) fun v1 h2 => (if v1 = 0 then (xb (f_X11_isRequest x2 x4 h2) fun v5 h6 => (xb (f_X11_good_ (0 : Int32) v5 h6) fun v8 h9 => (if v8 = 0 then (some ((0 : Int32), h9)) else (xb (f_X11_of x1 (0 : Int32) h9) fun v12 h13 => (f_X11_leastBid_51 N x1 x2 x3 x4 v12 (fun (e15 : Int32) (h16 : xm_H) => (xb (f_X11_set x1 (0 : Int32) v12 h16) fun v17 h18 => (some (e15, h18)))) N (-1 : Int32) (1 : Int32) h13))))) else (xb (f_X11_isTag x3 h2) fun v20 h21 => (if v20 = 0 then (xb (f_X11_isRequest x2 x4 h21) fun v24 h25 => (xb (f_X11_good_ (0 : Int32) v24 h25) fun v27 h28 => (if v27 = 0 then (some ((0 : Int32), h28)) else (xb (f_X11_of x1 (0 : Int32) h28) fun v31 h32 => (f_X11_leastBid_51 N x1 x2 x3 x4 v31 (fun (e34 : Int32) (h35 : xm_H) => (xb (f_X11_set x1 (0 : Int32) v31 h35) fun v36 h37 => (some (e34, h37)))) N (-1 : Int32) (1 : Int32) h32))))) else (xb (f_X11_isRequest x2 x4 h21) fun v39 h40 => (xb (f_X11_good_ (1 : Int32) v39 h40) fun v42 h43 => (if v42 = 0 then (some ((0 : Int32), h43)) else (xb (f_X11_of x1 (0 : Int32) h43) fun v46 h47 => (f_X11_leastBid_51 N x1 x2 x3 x4 v46 (fun (e49 : Int32) (h50 : xm_H) => (xb (f_X11_set x1 (0 : Int32) v46 h50) fun v51 h52 => (some (e49, h52)))) N (-1 : Int32) (1 : Int32) h47)))))))))
theorem tl_X11_leastBid_51 {ρ : Nat} {δ : Nat} {N : Nat} {c1 : Int32} {c2 : Int32} {c3 : Int32} {c4 : Int32} {c5 : Int32} {k103 : Int32 → xm_H → Option (Int32 × xm_H)} {Q : xm_O → xm_H → Prop} {w : Int32 × xm_H}  (hQ : xS ρ δ w.2 → Q (xji w.1) w.2) (hk103 : ∀ (a0 : Int32) (h : xm_H), xS ρ δ h → k103 a0 h = some w → xm_W (xm_Rn xX 4) xM_X11_leastBid Q 103 [some (.ref 302), some (.int c1), none, none, none, some (.int c5), some (.int a0), none] [] h) : ∀ (n : Nat) (c6 : Int32) (c7 : Int32) (h : xm_H), xS ρ δ h → f_X11_leastBid_51 N c1 c2 c3 c4 c5 k103 n c6 c7 h = some w → xm_W (xm_Rn xX 4) xM_X11_leastBid Q 51 [some (.ref 302), some (.int c1), some (.int c2), some (.int c3), some (.int c4), some (.int c5), some (.int c6), some (.int c7)] [] h := by
  intro n
  induction n with
  | zero =>
    intro c6 c7 h hS hf
    exact (xn_e hf).elim
  | succ n ih =>
    intro c6 c7 h hS hf
    replace hf : f_X11_leastBid_51B N c1 c2 c3 c4 c5 k103 (f_X11_leastBid_51 N c1 c2 c3 c4 c5 k103 n) c6 c7 h = some w := hf
    unfold f_X11_leastBid_51B at hf
    refine xw_K (pc' := 53) (ls' := [some (.ref 302), some (.int c1), some (.int c2), some (.int c3), some (.int c4), some (.int c5), some (.int c6), some (.int c7)]) (st' := [.int c7]) rfl rfl trivial ?_
    refine xw_G (pc' := 56) (st' := [.int (999 : Int32), .int c7]) rfl rfl trivial ?_
    refine xj_ic_gt rfl hf (fun hc1 hf => ?_) (fun hc1 hf => ?_)
    · refine xw_M rfl rfl ?_
      exact hk103 _ _ hS hf
    · refine xw_G (pc' := 61) (st' := [.int c6]) rfl rfl trivial ?_
      refine xw_G (pc' := 62) (st' := [.int (-1 : Int32), .int c6]) rfl rfl trivial ?_
      refine xj_ic_ne rfl hf (fun hc2 hf => ?_) (fun hc2 hf => ?_)
      · refine xw_G (pc' := 66) (st' := [.ref 302]) rfl rfl trivial ?_
        refine xw_G (pc' := 67) (st' := [.int c1, .ref 302]) rfl rfl trivial ?_
        refine xw_G (pc' := 68) (st' := [.int (0 : Int32), .int c1, .ref 302]) rfl rfl trivial ?_
        refine xw_G (pc' := 70) (st' := [.int c7, .int (0 : Int32), .int c1, .ref 302]) rfl rfl trivial ?_
        refine xb_e hf (fun v3 h4 e5 hf => ?_)
        refine xw_V (v := none) rfl rfl (xkf (xs_k hS rfl rfl : xm_k h 302 = (11, 0))) (Nat.le_of_ble_eq_true rfl) (Nat.le_of_ble_eq_true rfl) (xm_Rn_le (Nat.le_of_ble_eq_true rfl) (t_X11_set  hS e5).1) ?_
        have hS := (t_X11_set  hS e5).2
        show xm_W _ _ _ 73 _ [] _
        refine xw_G (pc' := 74) (st' := [.ref 302]) rfl rfl trivial ?_
        refine xw_G (pc' := 75) (st' := [.int c2, .ref 302]) rfl rfl trivial ?_
        refine xw_G (pc' := 76) (st' := [.int c3, .int c2, .ref 302]) rfl rfl trivial ?_
        refine xw_G (pc' := 78) (st' := [.int c4, .int c3, .int c2, .ref 302]) rfl rfl trivial ?_
        refine xb_e hf (fun v6 h7 e8 hf => ?_)
        refine xw_V (v := none) rfl rfl (xkf (xs_k hS rfl rfl : xm_k h4 302 = (11, 0))) (Nat.le_of_ble_eq_true rfl) (Nat.le_of_ble_eq_true rfl) (xm_Rn_le (Nat.le_of_ble_eq_true rfl) (t_X11_auction  hS e8).1) ?_
        have hS := (t_X11_auction  hS e8).2
        show xm_W _ _ _ 81 _ [] _
        refine xw_G (pc' := 82) (st' := [.ref 302]) rfl rfl trivial ?_
        refine xw_G (pc' := 83) (st' := [.int c1, .ref 302]) rfl rfl trivial ?_
        refine xb_e hf (fun v9 h10 e11 hf => ?_)
        refine xw_V (v := some (.int v9)) rfl rfl (xkf (xs_k hS rfl rfl : xm_k h7 302 = (11, 0))) (Nat.le_of_ble_eq_true rfl) (Nat.le_of_ble_eq_true rfl) (xm_Rn_le (Nat.le_of_ble_eq_true rfl) (t_X11_isWinner  hS e11).1) ?_
        have hS := (t_X11_isWinner  hS e11).2
        show xm_W _ _ _ 86 _ [.int v9] _
        refine xj_if_eq rfl hf (fun hc12 hf => ?_) (fun hc12 hf => ?_)
        · refine xw_G (pc' := 95) (st' := [.int (-1 : Int32)]) rfl rfl trivial ?_
          refine xw_G (pc' := 97) (ls' := [some (.ref 302), some (.int c1), some (.int c2), some (.int c3), some (.int c4), some (.int c5), some (.int (-1 : Int32)), some (.int c7)]) (st' := []) rfl rfl (Nat.le_of_ble_eq_true rfl) ?_
          refine xw_G (pc' := 100) (ls' := [some (.ref 302), some (.int c1), some (.int c2), some (.int c3), some (.int c4), some (.int c5), some (.int (-1 : Int32)), some (.int (c7 + (1 : Int32)))]) (st' := []) rfl rfl (Nat.le_of_ble_eq_true rfl) ?_
          refine xw_G (pc' := 51) (st' := []) rfl rfl trivial ?_
          refine xw_M rfl rfl ?_
          exact ih _ _ _ hS hf
        · refine xw_G (pc' := 91) (st' := [.int c7]) rfl rfl trivial ?_
          refine xw_G (pc' := 95) (st' := [.int c7]) rfl rfl trivial ?_
          refine xw_G (pc' := 97) (ls' := [some (.ref 302), some (.int c1), some (.int c2), some (.int c3), some (.int c4), some (.int c5), some (.int c7), some (.int c7)]) (st' := []) rfl rfl (Nat.le_of_ble_eq_true rfl) ?_
          refine xw_G (pc' := 100) (ls' := [some (.ref 302), some (.int c1), some (.int c2), some (.int c3), some (.int c4), some (.int c5), some (.int c7), some (.int (c7 + (1 : Int32)))]) (st' := []) rfl rfl (Nat.le_of_ble_eq_true rfl) ?_
          refine xw_G (pc' := 51) (st' := []) rfl rfl trivial ?_
          refine xw_M rfl rfl ?_
          exact ih _ _ _ hS hf
      · refine xw_M rfl rfl ?_
        exact hk103 _ _ hS hf
theorem t_X11_leastBid {N : Nat} {ρ : Nat} {δ : Nat} {x1 : Int32} {x2 : Int32} {x3 : Int32} {x4 : Int32} {h : xm_H} {w : Int32 × xm_H}  (hS : xS ρ δ h) (hf : f_X11_leastBid N x1 x2 x3 x4 h = some w) : xm_Rn xX 5 205 [.ref 302, .int x1, .int x2, .int x3, .int x4] h (xji w.1) w.2 ∧ xS ρ δ w.2 := by
  refine xt_mk (φ := fun h => xS ρ δ h) (M := xM_X11_leastBid) (ls := [some (.ref 302), some (.int x1), some (.int x2), some (.int x3), some (.int x4), none, none, none]) rfl (Nat.le_of_ble_eq_true rfl) rfl (fun Q hQ => ?_)
  unfold f_X11_leastBid at hf
  refine xw_G (pc' := 1) (st' := [.ref 302]) rfl rfl trivial ?_
  refine xw_G (pc' := 2) (st' := [.ref 302, .ref 302]) rfl rfl trivial ?_
  refine xw_G (pc' := 3) (st' := [.int x1, .ref 302, .ref 302]) rfl rfl trivial ?_
  refine xb_e hf (fun v1 h2 e3 hf => ?_)
  refine xw_V (v := some (.int v1)) rfl rfl (xkf (xs_k hS rfl rfl : xm_k h 302 = (11, 0))) (Nat.le_of_ble_eq_true rfl) (Nat.le_of_ble_eq_true rfl) (xm_Rn_le (Nat.le_of_ble_eq_true rfl) (t_X11_isCampaign  hS e3).1) ?_
  have hS := (t_X11_isCampaign  hS e3).2
  show xm_W _ _ _ 6 _ [.int v1, .ref 302] _
  refine xj_if_eq rfl hf (fun hc4 hf => ?_) (fun hc4 hf => ?_)
  · refine xw_G (pc' := 22) (st' := [.int (0 : Int32), .ref 302]) rfl rfl trivial ?_
    refine xw_G (pc' := 23) (st' := [.ref 302, .int (0 : Int32), .ref 302]) rfl rfl trivial ?_
    refine xw_G (pc' := 24) (st' := [.int x2, .ref 302, .int (0 : Int32), .ref 302]) rfl rfl trivial ?_
    refine xw_G (pc' := 26) (st' := [.int x4, .int x2, .ref 302, .int (0 : Int32), .ref 302]) rfl rfl trivial ?_
    refine xb_e hf (fun v5 h6 e7 hf => ?_)
    refine xw_V (v := some (.int v5)) rfl rfl (xkf (xs_k hS rfl rfl : xm_k h2 302 = (11, 0))) (Nat.le_of_ble_eq_true rfl) (Nat.le_of_ble_eq_true rfl) (xm_Rn_le (Nat.le_of_ble_eq_true rfl) (t_X11_isRequest  hS e7).1) ?_
    have hS := (t_X11_isRequest  hS e7).2
    show xm_W _ _ _ 29 _ [.int v5, .int (0 : Int32), .ref 302] _
    refine xb_e hf (fun v8 h9 e10 hf => ?_)
    refine xw_V (v := some (.int v8)) rfl rfl (xkf (xs_k hS rfl rfl : xm_k h6 302 = (11, 0))) (Nat.le_of_ble_eq_true rfl) (Nat.le_of_ble_eq_true rfl) (xm_Rn_le (Nat.le_of_ble_eq_true rfl) (t_X11_good_  hS e10).1) ?_
    have hS := (t_X11_good_  hS e10).2
    show xm_W _ _ _ 32 _ [.int v8] _
    refine xj_if_ne rfl hf (fun hc11 hf => ?_) (fun hc11 hf => ?_)
    · refine xw_G (pc' := 36) (st' := [.int (0 : Int32)]) rfl rfl trivial ?_
      exact xr_i (inj := xji) rfl rfl rfl rfl hf hQ hS
    · refine xw_G (pc' := 38) (st' := [.ref 302]) rfl rfl trivial ?_
      refine xw_G (pc' := 39) (st' := [.int x1, .ref 302]) rfl rfl trivial ?_
      refine xw_G (pc' := 40) (st' := [.int (0 : Int32), .int x1, .ref 302]) rfl rfl trivial ?_
      refine xb_e hf (fun v12 h13 e14 hf => ?_)
      refine xw_V (v := some (.int v12)) rfl rfl (xkf (xs_k hS rfl rfl : xm_k h9 302 = (11, 0))) (Nat.le_of_ble_eq_true rfl) (Nat.le_of_ble_eq_true rfl) (xm_Rn_le (Nat.le_of_ble_eq_true rfl) (t_X11_of  hS e14).1) ?_
      have hS := (t_X11_of  hS e14).2
      show xm_W _ _ _ 43 _ [.int v12] _
      refine xw_G (pc' := 45) (ls' := [some (.ref 302), some (.int x1), some (.int x2), some (.int x3), some (.int x4), some (.int v12), none, none]) (st' := []) rfl rfl (Nat.le_of_ble_eq_true rfl) ?_
      refine xw_G (pc' := 46) (st' := [.int (-1 : Int32)]) rfl rfl trivial ?_
      refine xw_G (pc' := 48) (ls' := [some (.ref 302), some (.int x1), some (.int x2), some (.int x3), some (.int x4), some (.int v12), some (.int (-1 : Int32)), none]) (st' := []) rfl rfl (Nat.le_of_ble_eq_true rfl) ?_
      refine xw_G (pc' := 49) (st' := [.int (1 : Int32)]) rfl rfl trivial ?_
      refine xw_G (pc' := 51) (ls' := [some (.ref 302), some (.int x1), some (.int x2), some (.int x3), some (.int x4), some (.int v12), some (.int (-1 : Int32)), some (.int (1 : Int32))]) (st' := []) rfl rfl (Nat.le_of_ble_eq_true rfl) ?_
      refine xw_M rfl rfl ?_
      refine tl_X11_leastBid_51  hQ (fun e15 h16 hS hf => ?_) _ _ _ _ hS hf
      refine xw_K (pc' := 104) (ls' := [some (.ref 302), some (.int x1), none, none, none, some (.int v12), some (.int e15), none]) (st' := [.ref 302]) rfl rfl trivial ?_
      refine xw_G (pc' := 105) (st' := [.int x1, .ref 302]) rfl rfl trivial ?_
      refine xw_G (pc' := 106) (st' := [.int (0 : Int32), .int x1, .ref 302]) rfl rfl trivial ?_
      refine xw_G (pc' := 108) (st' := [.int v12, .int (0 : Int32), .int x1, .ref 302]) rfl rfl trivial ?_
      refine xb_e hf (fun v17 h18 e19 hf => ?_)
      refine xw_V (v := none) rfl rfl (xkf (xs_k hS rfl rfl : xm_k h16 302 = (11, 0))) (Nat.le_of_ble_eq_true rfl) (Nat.le_of_ble_eq_true rfl) (xm_Rn_le (Nat.le_of_ble_eq_true rfl) (t_X11_set  hS e19).1) ?_
      have hS := (t_X11_set  hS e19).2
      show xm_W _ _ _ 111 _ [] _
      refine xw_G (pc' := 113) (st' := [.int e15]) rfl rfl trivial ?_
      exact xr_i (inj := xji) rfl rfl rfl rfl hf hQ hS
  · refine xw_G (pc' := 10) (st' := [.ref 302, .ref 302]) rfl rfl trivial ?_
    refine xw_G (pc' := 11) (st' := [.int x3, .ref 302, .ref 302]) rfl rfl trivial ?_
    refine xb_e hf (fun v20 h21 e22 hf => ?_)
    refine xw_V (v := some (.int v20)) rfl rfl (xkf (xs_k hS rfl rfl : xm_k h2 302 = (11, 0))) (Nat.le_of_ble_eq_true rfl) (Nat.le_of_ble_eq_true rfl) (xm_Rn_le (Nat.le_of_ble_eq_true rfl) (t_X11_isTag  hS e22).1) ?_
    have hS := (t_X11_isTag  hS e22).2
    show xm_W _ _ _ 14 _ [.int v20, .ref 302] _
    refine xj_if_eq rfl hf (fun hc23 hf => ?_) (fun hc23 hf => ?_)
    · refine xw_G (pc' := 22) (st' := [.int (0 : Int32), .ref 302]) rfl rfl trivial ?_
      refine xw_G (pc' := 23) (st' := [.ref 302, .int (0 : Int32), .ref 302]) rfl rfl trivial ?_
      refine xw_G (pc' := 24) (st' := [.int x2, .ref 302, .int (0 : Int32), .ref 302]) rfl rfl trivial ?_
      refine xw_G (pc' := 26) (st' := [.int x4, .int x2, .ref 302, .int (0 : Int32), .ref 302]) rfl rfl trivial ?_
      refine xb_e hf (fun v24 h25 e26 hf => ?_)
      refine xw_V (v := some (.int v24)) rfl rfl (xkf (xs_k hS rfl rfl : xm_k h21 302 = (11, 0))) (Nat.le_of_ble_eq_true rfl) (Nat.le_of_ble_eq_true rfl) (xm_Rn_le (Nat.le_of_ble_eq_true rfl) (t_X11_isRequest  hS e26).1) ?_
      have hS := (t_X11_isRequest  hS e26).2
      show xm_W _ _ _ 29 _ [.int v24, .int (0 : Int32), .ref 302] _
      refine xb_e hf (fun v27 h28 e29 hf => ?_)
      refine xw_V (v := some (.int v27)) rfl rfl (xkf (xs_k hS rfl rfl : xm_k h25 302 = (11, 0))) (Nat.le_of_ble_eq_true rfl) (Nat.le_of_ble_eq_true rfl) (xm_Rn_le (Nat.le_of_ble_eq_true rfl) (t_X11_good_  hS e29).1) ?_
      have hS := (t_X11_good_  hS e29).2
      show xm_W _ _ _ 32 _ [.int v27] _
      refine xj_if_ne rfl hf (fun hc30 hf => ?_) (fun hc30 hf => ?_)
      · refine xw_G (pc' := 36) (st' := [.int (0 : Int32)]) rfl rfl trivial ?_
        exact xr_i (inj := xji) rfl rfl rfl rfl hf hQ hS
      · refine xw_G (pc' := 38) (st' := [.ref 302]) rfl rfl trivial ?_
        refine xw_G (pc' := 39) (st' := [.int x1, .ref 302]) rfl rfl trivial ?_
        refine xw_G (pc' := 40) (st' := [.int (0 : Int32), .int x1, .ref 302]) rfl rfl trivial ?_
        refine xb_e hf (fun v31 h32 e33 hf => ?_)
        refine xw_V (v := some (.int v31)) rfl rfl (xkf (xs_k hS rfl rfl : xm_k h28 302 = (11, 0))) (Nat.le_of_ble_eq_true rfl) (Nat.le_of_ble_eq_true rfl) (xm_Rn_le (Nat.le_of_ble_eq_true rfl) (t_X11_of  hS e33).1) ?_
        have hS := (t_X11_of  hS e33).2
        show xm_W _ _ _ 43 _ [.int v31] _
        refine xw_G (pc' := 45) (ls' := [some (.ref 302), some (.int x1), some (.int x2), some (.int x3), some (.int x4), some (.int v31), none, none]) (st' := []) rfl rfl (Nat.le_of_ble_eq_true rfl) ?_
        refine xw_G (pc' := 46) (st' := [.int (-1 : Int32)]) rfl rfl trivial ?_
        refine xw_G (pc' := 48) (ls' := [some (.ref 302), some (.int x1), some (.int x2), some (.int x3), some (.int x4), some (.int v31), some (.int (-1 : Int32)), none]) (st' := []) rfl rfl (Nat.le_of_ble_eq_true rfl) ?_
        refine xw_G (pc' := 49) (st' := [.int (1 : Int32)]) rfl rfl trivial ?_
        refine xw_G (pc' := 51) (ls' := [some (.ref 302), some (.int x1), some (.int x2), some (.int x3), some (.int x4), some (.int v31), some (.int (-1 : Int32)), some (.int (1 : Int32))]) (st' := []) rfl rfl (Nat.le_of_ble_eq_true rfl) ?_
        refine xw_M rfl rfl ?_
        refine tl_X11_leastBid_51  hQ (fun e34 h35 hS hf => ?_) _ _ _ _ hS hf
        refine xw_K (pc' := 104) (ls' := [some (.ref 302), some (.int x1), none, none, none, some (.int v31), some (.int e34), none]) (st' := [.ref 302]) rfl rfl trivial ?_
        refine xw_G (pc' := 105) (st' := [.int x1, .ref 302]) rfl rfl trivial ?_
        refine xw_G (pc' := 106) (st' := [.int (0 : Int32), .int x1, .ref 302]) rfl rfl trivial ?_
        refine xw_G (pc' := 108) (st' := [.int v31, .int (0 : Int32), .int x1, .ref 302]) rfl rfl trivial ?_
        refine xb_e hf (fun v36 h37 e38 hf => ?_)
        refine xw_V (v := none) rfl rfl (xkf (xs_k hS rfl rfl : xm_k h35 302 = (11, 0))) (Nat.le_of_ble_eq_true rfl) (Nat.le_of_ble_eq_true rfl) (xm_Rn_le (Nat.le_of_ble_eq_true rfl) (t_X11_set  hS e38).1) ?_
        have hS := (t_X11_set  hS e38).2
        show xm_W _ _ _ 111 _ [] _
        refine xw_G (pc' := 113) (st' := [.int e34]) rfl rfl trivial ?_
        exact xr_i (inj := xji) rfl rfl rfl rfl hf hQ hS
    · refine xw_G (pc' := 18) (st' := [.int (1 : Int32), .ref 302]) rfl rfl trivial ?_
      refine xw_G (pc' := 22) (st' := [.int (1 : Int32), .ref 302]) rfl rfl trivial ?_
      refine xw_G (pc' := 23) (st' := [.ref 302, .int (1 : Int32), .ref 302]) rfl rfl trivial ?_
      refine xw_G (pc' := 24) (st' := [.int x2, .ref 302, .int (1 : Int32), .ref 302]) rfl rfl trivial ?_
      refine xw_G (pc' := 26) (st' := [.int x4, .int x2, .ref 302, .int (1 : Int32), .ref 302]) rfl rfl trivial ?_
      refine xb_e hf (fun v39 h40 e41 hf => ?_)
      refine xw_V (v := some (.int v39)) rfl rfl (xkf (xs_k hS rfl rfl : xm_k h21 302 = (11, 0))) (Nat.le_of_ble_eq_true rfl) (Nat.le_of_ble_eq_true rfl) (xm_Rn_le (Nat.le_of_ble_eq_true rfl) (t_X11_isRequest  hS e41).1) ?_
      have hS := (t_X11_isRequest  hS e41).2
      show xm_W _ _ _ 29 _ [.int v39, .int (1 : Int32), .ref 302] _
      refine xb_e hf (fun v42 h43 e44 hf => ?_)
      refine xw_V (v := some (.int v42)) rfl rfl (xkf (xs_k hS rfl rfl : xm_k h40 302 = (11, 0))) (Nat.le_of_ble_eq_true rfl) (Nat.le_of_ble_eq_true rfl) (xm_Rn_le (Nat.le_of_ble_eq_true rfl) (t_X11_good_  hS e44).1) ?_
      have hS := (t_X11_good_  hS e44).2
      show xm_W _ _ _ 32 _ [.int v42] _
      refine xj_if_ne rfl hf (fun hc45 hf => ?_) (fun hc45 hf => ?_)
      · refine xw_G (pc' := 36) (st' := [.int (0 : Int32)]) rfl rfl trivial ?_
        exact xr_i (inj := xji) rfl rfl rfl rfl hf hQ hS
      · refine xw_G (pc' := 38) (st' := [.ref 302]) rfl rfl trivial ?_
        refine xw_G (pc' := 39) (st' := [.int x1, .ref 302]) rfl rfl trivial ?_
        refine xw_G (pc' := 40) (st' := [.int (0 : Int32), .int x1, .ref 302]) rfl rfl trivial ?_
        refine xb_e hf (fun v46 h47 e48 hf => ?_)
        refine xw_V (v := some (.int v46)) rfl rfl (xkf (xs_k hS rfl rfl : xm_k h43 302 = (11, 0))) (Nat.le_of_ble_eq_true rfl) (Nat.le_of_ble_eq_true rfl) (xm_Rn_le (Nat.le_of_ble_eq_true rfl) (t_X11_of  hS e48).1) ?_
        have hS := (t_X11_of  hS e48).2
        show xm_W _ _ _ 43 _ [.int v46] _
        refine xw_G (pc' := 45) (ls' := [some (.ref 302), some (.int x1), some (.int x2), some (.int x3), some (.int x4), some (.int v46), none, none]) (st' := []) rfl rfl (Nat.le_of_ble_eq_true rfl) ?_
        refine xw_G (pc' := 46) (st' := [.int (-1 : Int32)]) rfl rfl trivial ?_
        refine xw_G (pc' := 48) (ls' := [some (.ref 302), some (.int x1), some (.int x2), some (.int x3), some (.int x4), some (.int v46), some (.int (-1 : Int32)), none]) (st' := []) rfl rfl (Nat.le_of_ble_eq_true rfl) ?_
        refine xw_G (pc' := 49) (st' := [.int (1 : Int32)]) rfl rfl trivial ?_
        refine xw_G (pc' := 51) (ls' := [some (.ref 302), some (.int x1), some (.int x2), some (.int x3), some (.int x4), some (.int v46), some (.int (-1 : Int32)), some (.int (1 : Int32))]) (st' := []) rfl rfl (Nat.le_of_ble_eq_true rfl) ?_
        refine xw_M rfl rfl ?_
        refine tl_X11_leastBid_51  hQ (fun e49 h50 hS hf => ?_) _ _ _ _ hS hf
        refine xw_K (pc' := 104) (ls' := [some (.ref 302), some (.int x1), none, none, none, some (.int v46), some (.int e49), none]) (st' := [.ref 302]) rfl rfl trivial ?_
        refine xw_G (pc' := 105) (st' := [.int x1, .ref 302]) rfl rfl trivial ?_
        refine xw_G (pc' := 106) (st' := [.int (0 : Int32), .int x1, .ref 302]) rfl rfl trivial ?_
        refine xw_G (pc' := 108) (st' := [.int v46, .int (0 : Int32), .int x1, .ref 302]) rfl rfl trivial ?_
        refine xb_e hf (fun v51 h52 e53 hf => ?_)
        refine xw_V (v := none) rfl rfl (xkf (xs_k hS rfl rfl : xm_k h50 302 = (11, 0))) (Nat.le_of_ble_eq_true rfl) (Nat.le_of_ble_eq_true rfl) (xm_Rn_le (Nat.le_of_ble_eq_true rfl) (t_X11_set  hS e53).1) ?_
        have hS := (t_X11_set  hS e53).2
        show xm_W _ _ _ 111 _ [] _
        refine xw_G (pc' := 113) (st' := [.int e49]) rfl rfl trivial ?_
        exact xr_i (inj := xji) rfl rfl rfl rfl hf hQ hS
def f_X2_earningsAt_11B (N : Nat) (ρ : Nat) (rec : Int32 → Int32 → xm_H → Option (Int32 × xm_H)) (c3 : Int32) (c4 : Int32) (h : xm_H) : Option (Int32 × xm_H) := (if c4 < (xm_i h 182 9) then (if xin c4 4 then (rec (c3 + (xm_i h 219 (Int32.toNatClampNeg c4))) (c4 + (1 : Int32)) h) else none) else (some (c3, h)))
def f_X2_earningsAt_11 (N : Nat) (ρ : Nat) : Nat → Int32 → Int32 → xm_H → Option (Int32 × xm_H)
  | 0 => fun _ _ _ => none
  | n + 1 => fun c3 c4 h => f_X2_earningsAt_11B N ρ (f_X2_earningsAt_11 N ρ n) c3 c4 h
def f_X2_earningsAt (N : Nat) (ρ : Nat) (x1 : Int32) (x2 : Int32) (h : xm_H) : Option (Int32 × xm_H) := (xb (f_X2_fill N ρ x1 x2 h) fun v1 h2 => (f_X2_earningsAt_11 N ρ N (0 : Int32) (0 : Int32) h2))
theorem tl_X2_earningsAt_11 {δ : Nat} {N : Nat} {ρ : Nat} {Q : xm_O → xm_H → Prop} {w : Int32 × xm_H}  (hQ : xS ρ δ w.2 → Q (xji w.1) w.2)  : ∀ (n : Nat) (c3 : Int32) (c4 : Int32) (h : xm_H), xS ρ δ h → f_X2_earningsAt_11 N ρ n c3 c4 h = some w → xm_W (xm_Rn xX 2) xM_X2_earningsAt Q 11 [some (.ref 182), none, none, some (.int c3), some (.int c4)] [] h := by
  intro n
  induction n with
  | zero =>
    intro c3 c4 h hS hf
    exact (xn_e hf).elim
  | succ n ih =>
    intro c3 c4 h hS hf
    replace hf : f_X2_earningsAt_11B N ρ (f_X2_earningsAt_11 N ρ n) c3 c4 h = some w := hf
    unfold f_X2_earningsAt_11B at hf
    refine xw_K (pc' := 13) (ls' := [some (.ref 182), none, none, some (.int c3), some (.int c4)]) (st' := [.int c4]) rfl rfl trivial ?_
    refine xw_G (pc' := 14) (st' := [.ref 182, .int c4]) rfl rfl trivial ?_
    refine xw_G (pc' := 17) (st' := [.int (xm_i h 182 9), .int c4]) rfl rfl (xkf (xs_k hS rfl rfl : xm_k h 182 = (3, 0))) ?_
    refine xj_ic_ge rfl hf (fun hc1 hf => ?_) (fun hc1 hf => ?_)
    · refine xw_G (pc' := 21) (st' := [.int c3]) rfl rfl trivial ?_
      refine xw_G (pc' := 22) (st' := [.ref 182, .int c3]) rfl rfl trivial ?_
      refine xw_gr rfl (xkf (xs_k hS rfl rfl : xm_k h 182 = (3, 0))) (xs_r hS rfl) ?_
      refine xw_G (pc' := 27) (st' := [.int c4, .ref 219, .int c3]) rfl rfl trivial ?_
      refine xg_e hf (fun hg2 hf => ?_)
      refine xa_ld (t := 100) (τ := 0) (v := .int (xm_i h 219 (Int32.toNatClampNeg c4))) rfl rfl (xkf (xs_k hS rfl rfl : xm_k h 219 = (100, 4))) (xkn (xs_k hS rfl rfl : xm_k h 219 = (100, 4))) hg2 rfl ?_
      refine xw_G (pc' := 29) (st' := [.int (c3 + (xm_i h 219 (Int32.toNatClampNeg c4)))]) rfl rfl trivial ?_
      refine xw_G (pc' := 30) (ls' := [some (.ref 182), none, none, some (.int (c3 + (xm_i h 219 (Int32.toNatClampNeg c4)))), some (.int c4)]) (st' := []) rfl rfl (Nat.le_of_ble_eq_true rfl) ?_
      refine xw_G (pc' := 33) (ls' := [some (.ref 182), none, none, some (.int (c3 + (xm_i h 219 (Int32.toNatClampNeg c4)))), some (.int (c4 + (1 : Int32)))]) (st' := []) rfl rfl (Nat.le_of_ble_eq_true rfl) ?_
      refine xw_G (pc' := 11) (st' := []) rfl rfl trivial ?_
      refine xw_M rfl rfl ?_
      exact ih _ _ _ hS hf
    · refine xw_G (pc' := 37) (st' := [.int c3]) rfl rfl trivial ?_
      exact xr_i (inj := xji) rfl rfl rfl rfl hf hQ hS
theorem t_X2_earningsAt {N : Nat} {ρ : Nat} {δ : Nat} {x1 : Int32} {x2 : Int32} {h : xm_H} {w : Int32 × xm_H}  (hS : xS ρ δ h) (hf : f_X2_earningsAt N ρ x1 x2 h = some w) : xm_Rn xX 3 25 [.ref 182, .int x1, .int x2] h (xji w.1) w.2 ∧ xS ρ δ w.2 := by
  refine xt_mk (φ := fun h => xS ρ δ h) (M := xM_X2_earningsAt) (ls := [some (.ref 182), some (.int x1), some (.int x2), none, none]) rfl (Nat.le_of_ble_eq_true rfl) rfl (fun Q hQ => ?_)
  unfold f_X2_earningsAt at hf
  refine xw_G (pc' := 1) (st' := [.ref 182]) rfl rfl trivial ?_
  refine xw_G (pc' := 2) (st' := [.int x1, .ref 182]) rfl rfl trivial ?_
  refine xw_G (pc' := 3) (st' := [.int x2, .int x1, .ref 182]) rfl rfl trivial ?_
  refine xb_e hf (fun v1 h2 e3 hf => ?_)
  refine xw_V (v := none) rfl rfl (xkf (xs_k hS rfl rfl : xm_k h 182 = (3, 0))) (Nat.le_of_ble_eq_true rfl) (Nat.le_of_ble_eq_true rfl) (xm_Rn_le (Nat.le_of_ble_eq_true rfl) (t_X2_fill  hS e3).1) ?_
  have hS := (t_X2_fill  hS e3).2
  show xm_W _ _ _ 6 _ [] _
  refine xw_G (pc' := 7) (st' := [.int (0 : Int32)]) rfl rfl trivial ?_
  refine xw_G (pc' := 8) (ls' := [some (.ref 182), some (.int x1), some (.int x2), some (.int (0 : Int32)), none]) (st' := []) rfl rfl (Nat.le_of_ble_eq_true rfl) ?_
  refine xw_G (pc' := 9) (st' := [.int (0 : Int32)]) rfl rfl trivial ?_
  refine xw_G (pc' := 11) (ls' := [some (.ref 182), some (.int x1), some (.int x2), some (.int (0 : Int32)), some (.int (0 : Int32))]) (st' := []) rfl rfl (Nat.le_of_ble_eq_true rfl) ?_
  refine xw_M rfl rfl ?_
  refine tl_X2_earningsAt_11  hQ  _ _ _ _ hS hf
def f_X2_leastFloorEarning_9B (N : Nat) (ρ : Nat) (c1 : Int32) (c2 : Int32) (rec : Int32 → Int32 → Int32 → xm_H → Option (Int32 × xm_H)) (c4 : Int32) (c5 : Int32) (c6 : Int32) (h : xm_H) : Option (Int32 × xm_H) := (if c6 < (12 : Int32) then (if c4 < c5 then (xb (f_X2_earningsAt N ρ c2 ((c4 + c5) / (2 : Int32)) h) fun v3 h4 => (if v3 < c1 then (rec (((c4 + c5) / (2 : Int32)) + (1 : Int32)) c5 (c6 + (1 : Int32)) h4) else (rec c4 ((c4 + c5) / (2 : Int32)) (c6 + (1 : Int32)) h4))) else (some (c4, h))) else (some (c4, h)))
def f_X2_leastFloorEarning_9 (N : Nat) (ρ : Nat) (c1 : Int32) (c2 : Int32) : Nat → Int32 → Int32 → Int32 → xm_H → Option (Int32 × xm_H)
  | 0 => fun _ _ _ _ => none
  | n + 1 => fun c4 c5 c6 h => f_X2_leastFloorEarning_9B N ρ c1 c2 (f_X2_leastFloorEarning_9 N ρ c1 c2 n) c4 c5 c6 h
def f_X2_leastFloorEarning (N : Nat) (ρ : Nat) (x1 : Int32) (x2 : Int32) (x3 : Int32) (h : xm_H) : Option (Int32 × xm_H) := (f_X2_leastFloorEarning_9 N ρ x1 x2 N (0 : Int32) x3 (0 : Int32) h)
theorem tl_X2_leastFloorEarning_9 {δ : Nat} {N : Nat} {ρ : Nat} {c1 : Int32} {c2 : Int32} {Q : xm_O → xm_H → Prop} {w : Int32 × xm_H}  (hQ : xS ρ δ w.2 → Q (xji w.1) w.2)  : ∀ (n : Nat) (c4 : Int32) (c5 : Int32) (c6 : Int32) (h : xm_H), xS ρ δ h → f_X2_leastFloorEarning_9 N ρ c1 c2 n c4 c5 c6 h = some w → xm_W (xm_Rn xX 3) xM_X2_leastFloorEarning Q 9 [some (.ref 182), some (.int c1), some (.int c2), none, some (.int c4), some (.int c5), some (.int c6), none] [] h := by
  intro n
  induction n with
  | zero =>
    intro c4 c5 c6 h hS hf
    exact (xn_e hf).elim
  | succ n ih =>
    intro c4 c5 c6 h hS hf
    replace hf : f_X2_leastFloorEarning_9B N ρ c1 c2 (f_X2_leastFloorEarning_9 N ρ c1 c2 n) c4 c5 c6 h = some w := hf
    unfold f_X2_leastFloorEarning_9B at hf
    refine xw_K (pc' := 11) (ls' := [some (.ref 182), some (.int c1), some (.int c2), none, some (.int c4), some (.int c5), some (.int c6), none]) (st' := [.int c6]) rfl rfl trivial ?_
    refine xw_G (pc' := 13) (st' := [.int (12 : Int32), .int c6]) rfl rfl trivial ?_
    refine xj_ic_ge rfl hf (fun hc1 hf => ?_) (fun hc1 hf => ?_)
    · refine xw_G (pc' := 18) (st' := [.int c4]) rfl rfl trivial ?_
      refine xw_G (pc' := 20) (st' := [.int c5, .int c4]) rfl rfl trivial ?_
      refine xj_ic_ge rfl hf (fun hc2 hf => ?_) (fun hc2 hf => ?_)
      · refine xw_G (pc' := 25) (st' := [.int c4]) rfl rfl trivial ?_
        refine xw_G (pc' := 27) (st' := [.int c5, .int c4]) rfl rfl trivial ?_
        refine xw_G (pc' := 28) (st' := [.int (c4 + c5)]) rfl rfl trivial ?_
        refine xw_G (pc' := 29) (st' := [.int (2 : Int32), .int (c4 + c5)]) rfl rfl trivial ?_
        refine xw_G (pc' := 30) (st' := [.int ((c4 + c5) / (2 : Int32))]) rfl rfl (by decide) ?_
        refine xw_G (pc' := 32) (ls' := [some (.ref 182), some (.int c1), some (.int c2), none, some (.int c4), some (.int c5), some (.int c6), some (.int ((c4 + c5) / (2 : Int32)))]) (st' := []) rfl rfl (Nat.le_of_ble_eq_true rfl) ?_
        refine xw_G (pc' := 33) (st' := [.ref 182]) rfl rfl trivial ?_
        refine xw_G (pc' := 34) (st' := [.int c2, .ref 182]) rfl rfl trivial ?_
        refine xw_G (pc' := 36) (st' := [.int ((c4 + c5) / (2 : Int32)), .int c2, .ref 182]) rfl rfl trivial ?_
        refine xb_e hf (fun v3 h4 e5 hf => ?_)
        refine xw_V (v := some (.int v3)) rfl rfl (xkf (xs_k hS rfl rfl : xm_k h 182 = (3, 0))) (Nat.le_of_ble_eq_true rfl) (Nat.le_of_ble_eq_true rfl) (xm_Rn_le (Nat.le_of_ble_eq_true rfl) (t_X2_earningsAt  hS e5).1) ?_
        have hS := (t_X2_earningsAt  hS e5).2
        show xm_W _ _ _ 39 _ [.int v3] _
        refine xw_G (pc' := 40) (st' := [.int c1, .int v3]) rfl rfl trivial ?_
        refine xj_ic_lt rfl hf (fun hc6 hf => ?_) (fun hc6 hf => ?_)
        · refine xw_G (pc' := 52) (st' := [.int ((c4 + c5) / (2 : Int32))]) rfl rfl trivial ?_
          refine xw_G (pc' := 53) (st' := [.int (1 : Int32), .int ((c4 + c5) / (2 : Int32))]) rfl rfl trivial ?_
          refine xw_G (pc' := 54) (st' := [.int (((c4 + c5) / (2 : Int32)) + (1 : Int32))]) rfl rfl trivial ?_
          refine xw_G (pc' := 56) (ls' := [some (.ref 182), some (.int c1), some (.int c2), none, some (.int (((c4 + c5) / (2 : Int32)) + (1 : Int32))), some (.int c5), some (.int c6), some (.int ((c4 + c5) / (2 : Int32)))]) (st' := []) rfl rfl (Nat.le_of_ble_eq_true rfl) ?_
          refine xw_G (pc' := 59) (ls' := [some (.ref 182), some (.int c1), some (.int c2), none, some (.int (((c4 + c5) / (2 : Int32)) + (1 : Int32))), some (.int c5), some (.int (c6 + (1 : Int32))), some (.int ((c4 + c5) / (2 : Int32)))]) (st' := []) rfl rfl (Nat.le_of_ble_eq_true rfl) ?_
          refine xw_G (pc' := 9) (st' := []) rfl rfl trivial ?_
          refine xw_M rfl rfl ?_
          exact ih _ _ _ _ hS hf
        · refine xw_G (pc' := 45) (st' := [.int ((c4 + c5) / (2 : Int32))]) rfl rfl trivial ?_
          refine xw_G (pc' := 47) (ls' := [some (.ref 182), some (.int c1), some (.int c2), none, some (.int c4), some (.int ((c4 + c5) / (2 : Int32))), some (.int c6), some (.int ((c4 + c5) / (2 : Int32)))]) (st' := []) rfl rfl (Nat.le_of_ble_eq_true rfl) ?_
          refine xw_G (pc' := 56) (st' := []) rfl rfl trivial ?_
          refine xw_G (pc' := 59) (ls' := [some (.ref 182), some (.int c1), some (.int c2), none, some (.int c4), some (.int ((c4 + c5) / (2 : Int32))), some (.int (c6 + (1 : Int32))), some (.int ((c4 + c5) / (2 : Int32)))]) (st' := []) rfl rfl (Nat.le_of_ble_eq_true rfl) ?_
          refine xw_G (pc' := 9) (st' := []) rfl rfl trivial ?_
          refine xw_M rfl rfl ?_
          exact ih _ _ _ _ hS hf
      · refine xw_G (pc' := 64) (st' := [.int c4]) rfl rfl trivial ?_
        exact xr_i (inj := xji) rfl rfl rfl rfl hf hQ hS
    · refine xw_G (pc' := 64) (st' := [.int c4]) rfl rfl trivial ?_
      exact xr_i (inj := xji) rfl rfl rfl rfl hf hQ hS
theorem t_X2_leastFloorEarning {N : Nat} {ρ : Nat} {δ : Nat} {x1 : Int32} {x2 : Int32} {x3 : Int32} {h : xm_H} {w : Int32 × xm_H}  (hS : xS ρ δ h) (hf : f_X2_leastFloorEarning N ρ x1 x2 x3 h = some w) : xm_Rn xX 4 24 [.ref 182, .int x1, .int x2, .int x3] h (xji w.1) w.2 ∧ xS ρ δ w.2 := by
  refine xt_mk (φ := fun h => xS ρ δ h) (M := xM_X2_leastFloorEarning) (ls := [some (.ref 182), some (.int x1), some (.int x2), some (.int x3), none, none, none, none]) rfl (Nat.le_of_ble_eq_true rfl) rfl (fun Q hQ => ?_)
  unfold f_X2_leastFloorEarning at hf
  refine xw_G (pc' := 1) (st' := [.int (0 : Int32)]) rfl rfl trivial ?_
  refine xw_G (pc' := 3) (ls' := [some (.ref 182), some (.int x1), some (.int x2), some (.int x3), some (.int (0 : Int32)), none, none, none]) (st' := []) rfl rfl (Nat.le_of_ble_eq_true rfl) ?_
  refine xw_G (pc' := 4) (st' := [.int x3]) rfl rfl trivial ?_
  refine xw_G (pc' := 6) (ls' := [some (.ref 182), some (.int x1), some (.int x2), some (.int x3), some (.int (0 : Int32)), some (.int x3), none, none]) (st' := []) rfl rfl (Nat.le_of_ble_eq_true rfl) ?_
  refine xw_G (pc' := 7) (st' := [.int (0 : Int32)]) rfl rfl trivial ?_
  refine xw_G (pc' := 9) (ls' := [some (.ref 182), some (.int x1), some (.int x2), some (.int x3), some (.int (0 : Int32)), some (.int x3), some (.int (0 : Int32)), none]) (st' := []) rfl rfl (Nat.le_of_ble_eq_true rfl) ?_
  refine xw_M rfl rfl ?_
  refine tl_X2_leastFloorEarning_9  hQ  _ _ _ _ _ hS hf
def f_X2_mostEarningFloor_21B (N : Nat) (ρ : Nat) (c3 : Int32) (k70 : Int32 → Int32 → xm_H → Option (Int32 × xm_H)) (rec : Int32 → Int32 → Int32 → xm_H → Option (Int32 × xm_H)) (c4 : Int32) (c5 : Int32) (c6 : Int32) (h : xm_H) : Option (Int32 × xm_H) := (if c6 < 0 then (k70 c4 c5 h) else (if xin c6 8 then (if xin (xm_i h 217 (Int32.toNatClampNeg c6)) 8 then (xb (f_X2_earningsAt N ρ c3 (xm_i h 216 (Int32.toNatClampNeg (xm_i h 217 (Int32.toNatClampNeg c6)))) h) fun v4 h5 => (if c4 < v4 then (rec v4 (xm_i h 216 (Int32.toNatClampNeg (xm_i h 217 (Int32.toNatClampNeg c6)))) (c6 + (-1 : Int32)) h5) else (rec c4 c5 (c6 + (-1 : Int32)) h5))) else none) else none))
def f_X2_mostEarningFloor_21 (N : Nat) (ρ : Nat) (c3 : Int32) (k70 : Int32 → Int32 → xm_H → Option (Int32 × xm_H)) : Nat → Int32 → Int32 → Int32 → xm_H → Option (Int32 × xm_H)
  | 0 => fun _ _ _ _ => none
  | n + 1 => fun c4 c5 c6 h => f_X2_mostEarningFloor_21B N ρ c3 k70 (f_X2_mostEarningFloor_21 N ρ c3 k70 n) c4 c5 c6 h
def f_X2_mostEarningFloor (N : Nat) (ρ : Nat) (x1 : Int32) (x2 : Int32) (x3 : Int32) (h : xm_H) : Option (Int32 × xm_H) := (xb (f_X2_rank N ρ x1 x2 (0 : Int32) h) fun v1 h2 => (f_X2_mostEarningFloor_21 N ρ x3 (fun (e4 : Int32) (e5 : Int32) (h6 : xm_H) => (xb (f_X2_leastFloorEarning N ρ e4 x3 e5 h6) fun v7 h8 => (some (v7, h8)))) N (0 : Int32) (0 : Int32) ((xm_i h2 182 6) - (1 : Int32)) h2))
theorem tl_X2_mostEarningFloor_21 {δ : Nat} {N : Nat} {ρ : Nat} {c3 : Int32} {k70 : Int32 → Int32 → xm_H → Option (Int32 × xm_H)} {Q : xm_O → xm_H → Prop} {w : Int32 × xm_H}  (hQ : xS ρ δ w.2 → Q (xji w.1) w.2) (hk70 : ∀ (a0 : Int32) (a1 : Int32) (h : xm_H), xS ρ δ h → k70 a0 a1 h = some w → xm_W (xm_Rn xX 4) xM_X2_mostEarningFloor Q 70 [some (.ref 182), none, none, some (.int c3), some (.int a0), some (.int a1), none, none, none] [] h) : ∀ (n : Nat) (c4 : Int32) (c5 : Int32) (c6 : Int32) (h : xm_H), xS ρ δ h → f_X2_mostEarningFloor_21 N ρ c3 k70 n c4 c5 c6 h = some w → xm_W (xm_Rn xX 4) xM_X2_mostEarningFloor Q 21 [some (.ref 182), none, none, some (.int c3), some (.int c4), some (.int c5), some (.int c6), none, none] [] h := by
  intro n
  induction n with
  | zero =>
    intro c4 c5 c6 h hS hf
    exact (xn_e hf).elim
  | succ n ih =>
    intro c4 c5 c6 h hS hf
    replace hf : f_X2_mostEarningFloor_21B N ρ c3 k70 (f_X2_mostEarningFloor_21 N ρ c3 k70 n) c4 c5 c6 h = some w := hf
    unfold f_X2_mostEarningFloor_21B at hf
    refine xw_K (pc' := 23) (ls' := [some (.ref 182), none, none, some (.int c3), some (.int c4), some (.int c5), some (.int c6), none, none]) (st' := [.int c6]) rfl rfl trivial ?_
    refine xj_if_lt rfl hf (fun hc1 hf => ?_) (fun hc1 hf => ?_)
    · refine xw_M rfl rfl ?_
      exact hk70 _ _ _ hS hf
    · refine xw_G (pc' := 27) (st' := [.ref 182]) rfl rfl trivial ?_
      refine xw_gr rfl (xkf (xs_k hS rfl rfl : xm_k h 182 = (3, 0))) (xs_r hS rfl) ?_
      refine xw_G (pc' := 31) (st' := [.ref 182, .ref 216]) rfl rfl trivial ?_
      refine xw_gr rfl (xkf (xs_k hS rfl rfl : xm_k h 182 = (3, 0))) (xs_r hS rfl) ?_
      refine xw_G (pc' := 36) (st' := [.int c6, .ref 217, .ref 216]) rfl rfl trivial ?_
      refine xg_e hf (fun hg2 hf => ?_)
      refine xa_ld (t := 100) (τ := 0) (v := .int (xm_i h 217 (Int32.toNatClampNeg c6))) rfl rfl (xkf (xs_k hS rfl rfl : xm_k h 217 = (100, 8))) (xkn (xs_k hS rfl rfl : xm_k h 217 = (100, 8))) hg2 rfl ?_
      refine xg_e hf (fun hg3 hf => ?_)
      refine xa_ld (t := 100) (τ := 0) (v := .int (xm_i h 216 (Int32.toNatClampNeg (xm_i h 217 (Int32.toNatClampNeg c6))))) rfl rfl (xkf (xs_k hS rfl rfl : xm_k h 216 = (100, 8))) (xkn (xs_k hS rfl rfl : xm_k h 216 = (100, 8))) hg3 rfl ?_
      refine xw_G (pc' := 40) (ls' := [some (.ref 182), none, none, some (.int c3), some (.int c4), some (.int c5), some (.int c6), some (.int (xm_i h 216 (Int32.toNatClampNeg (xm_i h 217 (Int32.toNatClampNeg c6))))), none]) (st' := []) rfl rfl (Nat.le_of_ble_eq_true rfl) ?_
      refine xw_G (pc' := 41) (st' := [.ref 182]) rfl rfl trivial ?_
      refine xw_G (pc' := 42) (st' := [.int c3, .ref 182]) rfl rfl trivial ?_
      refine xw_G (pc' := 44) (st' := [.int (xm_i h 216 (Int32.toNatClampNeg (xm_i h 217 (Int32.toNatClampNeg c6)))), .int c3, .ref 182]) rfl rfl trivial ?_
      refine xb_e hf (fun v4 h5 e6 hf => ?_)
      refine xw_V (v := some (.int v4)) rfl rfl (xkf (xs_k hS rfl rfl : xm_k h 182 = (3, 0))) (Nat.le_of_ble_eq_true rfl) (Nat.le_of_ble_eq_true rfl) (xm_Rn_le (Nat.le_of_ble_eq_true rfl) (t_X2_earningsAt  hS e6).1) ?_
      have hS := (t_X2_earningsAt  hS e6).2
      show xm_W _ _ _ 47 _ [.int v4] _
      refine xw_G (pc' := 49) (ls' := [some (.ref 182), none, none, some (.int c3), some (.int c4), some (.int c5), some (.int c6), some (.int (xm_i h 216 (Int32.toNatClampNeg (xm_i h 217 (Int32.toNatClampNeg c6))))), some (.int v4)]) (st' := []) rfl rfl (Nat.le_of_ble_eq_true rfl) ?_
      refine xw_G (pc' := 51) (st' := [.int v4]) rfl rfl trivial ?_
      refine xw_G (pc' := 53) (st' := [.int c4, .int v4]) rfl rfl trivial ?_
      refine xj_ic_le rfl hf (fun hc7 hf => ?_) (fun hc7 hf => ?_)
      · refine xw_G (pc' := 58) (st' := [.int v4]) rfl rfl trivial ?_
        refine xw_G (pc' := 60) (ls' := [some (.ref 182), none, none, some (.int c3), some (.int v4), some (.int c5), some (.int c6), some (.int (xm_i h 216 (Int32.toNatClampNeg (xm_i h 217 (Int32.toNatClampNeg c6))))), some (.int v4)]) (st' := []) rfl rfl (Nat.le_of_ble_eq_true rfl) ?_
        refine xw_G (pc' := 62) (st' := [.int (xm_i h 216 (Int32.toNatClampNeg (xm_i h 217 (Int32.toNatClampNeg c6))))]) rfl rfl trivial ?_
        refine xw_G (pc' := 64) (ls' := [some (.ref 182), none, none, some (.int c3), some (.int v4), some (.int (xm_i h 216 (Int32.toNatClampNeg (xm_i h 217 (Int32.toNatClampNeg c6))))), some (.int c6), some (.int (xm_i h 216 (Int32.toNatClampNeg (xm_i h 217 (Int32.toNatClampNeg c6))))), some (.int v4)]) (st' := []) rfl rfl (Nat.le_of_ble_eq_true rfl) ?_
        refine xw_G (pc' := 67) (ls' := [some (.ref 182), none, none, some (.int c3), some (.int v4), some (.int (xm_i h 216 (Int32.toNatClampNeg (xm_i h 217 (Int32.toNatClampNeg c6))))), some (.int (c6 + (-1 : Int32))), some (.int (xm_i h 216 (Int32.toNatClampNeg (xm_i h 217 (Int32.toNatClampNeg c6))))), some (.int v4)]) (st' := []) rfl rfl (Nat.le_of_ble_eq_true rfl) ?_
        refine xw_G (pc' := 21) (st' := []) rfl rfl trivial ?_
        refine xw_M rfl rfl ?_
        exact ih _ _ _ _ hS hf
      · refine xw_G (pc' := 67) (ls' := [some (.ref 182), none, none, some (.int c3), some (.int c4), some (.int c5), some (.int (c6 + (-1 : Int32))), some (.int (xm_i h 216 (Int32.toNatClampNeg (xm_i h 217 (Int32.toNatClampNeg c6))))), some (.int v4)]) (st' := []) rfl rfl (Nat.le_of_ble_eq_true rfl) ?_
        refine xw_G (pc' := 21) (st' := []) rfl rfl trivial ?_
        refine xw_M rfl rfl ?_
        exact ih _ _ _ _ hS hf
theorem t_X2_mostEarningFloor {N : Nat} {ρ : Nat} {δ : Nat} {x1 : Int32} {x2 : Int32} {x3 : Int32} {h : xm_H} {w : Int32 × xm_H}  (hS : xS ρ δ h) (hf : f_X2_mostEarningFloor N ρ x1 x2 x3 h = some w) : xm_Rn xX 5 23 [.ref 182, .int x1, .int x2, .int x3] h (xji w.1) w.2 ∧ xS ρ δ w.2 := by
  refine xt_mk (φ := fun h => xS ρ δ h) (M := xM_X2_mostEarningFloor) (ls := [some (.ref 182), some (.int x1), some (.int x2), some (.int x3), none, none, none, none, none]) rfl (Nat.le_of_ble_eq_true rfl) rfl (fun Q hQ => ?_)
  unfold f_X2_mostEarningFloor at hf
  refine xw_G (pc' := 1) (st' := [.ref 182]) rfl rfl trivial ?_
  refine xw_G (pc' := 2) (st' := [.int x1, .ref 182]) rfl rfl trivial ?_
  refine xw_G (pc' := 3) (st' := [.int x2, .int x1, .ref 182]) rfl rfl trivial ?_
  refine xw_G (pc' := 4) (st' := [.int (0 : Int32), .int x2, .int x1, .ref 182]) rfl rfl trivial ?_
  refine xb_e hf (fun v1 h2 e3 hf => ?_)
  refine xw_V (v := none) rfl rfl (xkf (xs_k hS rfl rfl : xm_k h 182 = (3, 0))) (Nat.le_of_ble_eq_true rfl) (Nat.le_of_ble_eq_true rfl) (xm_Rn_le (Nat.le_of_ble_eq_true rfl) (t_X2_rank  hS e3).1) ?_
  have hS := (t_X2_rank  hS e3).2
  show xm_W _ _ _ 7 _ [] _
  refine xw_G (pc' := 8) (st' := [.int (0 : Int32)]) rfl rfl trivial ?_
  refine xw_G (pc' := 10) (ls' := [some (.ref 182), some (.int x1), some (.int x2), some (.int x3), some (.int (0 : Int32)), none, none, none, none]) (st' := []) rfl rfl (Nat.le_of_ble_eq_true rfl) ?_
  refine xw_G (pc' := 11) (st' := [.int (0 : Int32)]) rfl rfl trivial ?_
  refine xw_G (pc' := 13) (ls' := [some (.ref 182), some (.int x1), some (.int x2), some (.int x3), some (.int (0 : Int32)), some (.int (0 : Int32)), none, none, none]) (st' := []) rfl rfl (Nat.le_of_ble_eq_true rfl) ?_
  refine xw_G (pc' := 14) (st' := [.ref 182]) rfl rfl trivial ?_
  refine xw_G (pc' := 17) (st' := [.int (xm_i h2 182 6)]) rfl rfl (xkf (xs_k hS rfl rfl : xm_k h2 182 = (3, 0))) ?_
  refine xw_G (pc' := 18) (st' := [.int (1 : Int32), .int (xm_i h2 182 6)]) rfl rfl trivial ?_
  refine xw_G (pc' := 19) (st' := [.int ((xm_i h2 182 6) - (1 : Int32))]) rfl rfl trivial ?_
  refine xw_G (pc' := 21) (ls' := [some (.ref 182), some (.int x1), some (.int x2), some (.int x3), some (.int (0 : Int32)), some (.int (0 : Int32)), some (.int ((xm_i h2 182 6) - (1 : Int32))), none, none]) (st' := []) rfl rfl (Nat.le_of_ble_eq_true rfl) ?_
  refine xw_M rfl rfl ?_
  refine tl_X2_mostEarningFloor_21  hQ (fun e4 e5 h6 hS hf => ?_) _ _ _ _ _ hS hf
  refine xw_K (pc' := 71) (ls' := [some (.ref 182), none, none, some (.int x3), some (.int e4), some (.int e5), none, none, none]) (st' := [.ref 182]) rfl rfl trivial ?_
  refine xw_G (pc' := 73) (st' := [.int e4, .ref 182]) rfl rfl trivial ?_
  refine xw_G (pc' := 74) (st' := [.int x3, .int e4, .ref 182]) rfl rfl trivial ?_
  refine xw_G (pc' := 76) (st' := [.int e5, .int x3, .int e4, .ref 182]) rfl rfl trivial ?_
  refine xb_e hf (fun v7 h8 e9 hf => ?_)
  refine xw_V (v := some (.int v7)) rfl rfl (xkf (xs_k hS rfl rfl : xm_k h6 182 = (3, 0))) (Nat.le_of_ble_eq_true rfl) (Nat.le_of_ble_eq_true rfl) (xm_Rn_le (Nat.le_of_ble_eq_true rfl) (t_X2_leastFloorEarning  hS e9).1) ?_
  have hS := (t_X2_leastFloorEarning  hS e9).2
  show xm_W _ _ _ 79 _ [.int v7] _
  exact xr_i (inj := xji) rfl rfl rfl rfl hf hQ hS
def f_X10_bestFloor (N : Nat) (ρ : Nat) (x1 : Int32) (x2 : Int32) (x3 : Int32) (h : xm_H) : Option ((Int32 ⊕ Nat × Nat) × xm_H) := (xe (f_X10_requireTag ρ x2 h) (fun v1 h2 => (xe (f_X10_requireUser x1 h2) (fun v4 h5 => (xe (f_X10_requireSlots ρ x3 h5) (fun v7 h8 => (xb (f_X2_mostEarningFloor N ρ x1 x2 x3 h8) fun v10 h11 => (some (.inl v10, h11)))) (fun q13 h14 => (some (.inr q13, h14))))) (fun q16 h17 => (some (.inr q16, h17))))) (fun q19 h20 => (some (.inr q19, h20))))
theorem t_X10_bestFloor {N : Nat} {ρ : Nat} {δ : Nat} {x1 : Int32} {x2 : Int32} {x3 : Int32} {h : xm_H} {w : (Int32 ⊕ Nat × Nat) × xm_H}  (hS : xS ρ δ h) (hf : f_X10_bestFloor N ρ x1 x2 x3 h = some w) : xm_Rn xX 6 94 [.ref 160, .int x1, .int x2, .int x3] h (xti w.1) w.2 ∧ xS ρ δ w.2 := by
  refine xt_mk (φ := fun h => xS ρ δ h) (M := xM_X10_bestFloor) (ls := [some (.ref 160), some (.int x1), some (.int x2), some (.int x3)]) rfl (Nat.le_of_ble_eq_true rfl) rfl (fun Q hQ => ?_)
  unfold f_X10_bestFloor at hf
  refine xw_G (pc' := 1) (st' := [.ref 160]) rfl rfl trivial ?_
  refine xw_G (pc' := 2) (st' := [.int x2, .ref 160]) rfl rfl trivial ?_
  refine xe_e hf (fun v1 h2 e3 hf => ?_) (fun q19 h20 e3 hf => ?_)
  · refine xw_V (v := none) rfl rfl (xkf (xs_k hS rfl rfl : xm_k h 160 = (0, 0))) (Nat.le_of_ble_eq_true rfl) (Nat.le_of_ble_eq_true rfl) (xm_Rn_le (Nat.le_of_ble_eq_true rfl) (t_X10_requireTag  hS e3).1) ?_
    have hS := (t_X10_requireTag  hS e3).2
    show xm_W _ _ _ 5 _ [] _
    refine xw_G (pc' := 6) (st' := [.int x1]) rfl rfl trivial ?_
    refine xe_e hf (fun v4 h5 e6 hf => ?_) (fun q16 h17 e6 hf => ?_)
    · refine xw_S (v := none) rfl (Nat.le_of_ble_eq_true rfl) (Nat.le_of_ble_eq_true rfl) (xm_Rn_le (Nat.le_of_ble_eq_true rfl) (t_X10_requireUser  hS e6).1) ?_
      have hS := (t_X10_requireUser  hS e6).2
      show xm_W _ _ _ 9 _ [] _
      refine xw_G (pc' := 10) (st' := [.ref 160]) rfl rfl trivial ?_
      refine xw_G (pc' := 11) (st' := [.int x3, .ref 160]) rfl rfl trivial ?_
      refine xe_e hf (fun v7 h8 e9 hf => ?_) (fun q13 h14 e9 hf => ?_)
      · refine xw_V (v := none) rfl rfl (xkf (xs_k hS rfl rfl : xm_k h5 160 = (0, 0))) (Nat.le_of_ble_eq_true rfl) (Nat.le_of_ble_eq_true rfl) (xm_Rn_le (Nat.le_of_ble_eq_true rfl) (t_X10_requireSlots  hS e9).1) ?_
        have hS := (t_X10_requireSlots  hS e9).2
        show xm_W _ _ _ 14 _ [] _
        refine xw_G (pc' := 15) (st' := [.ref 160]) rfl rfl trivial ?_
        refine xw_gr rfl (xkf (xs_k hS rfl rfl : xm_k h8 160 = (0, 0))) (xs_r hS rfl) ?_
        refine xw_G (pc' := 19) (st' := [.int x1, .ref 182]) rfl rfl trivial ?_
        refine xw_G (pc' := 20) (st' := [.int x2, .int x1, .ref 182]) rfl rfl trivial ?_
        refine xw_G (pc' := 21) (st' := [.int x3, .int x2, .int x1, .ref 182]) rfl rfl trivial ?_
        refine xb_e hf (fun v10 h11 e12 hf => ?_)
        refine xw_V (v := some (.int v10)) rfl rfl (xkf (xs_k hS rfl rfl : xm_k h8 182 = (3, 0))) (Nat.le_of_ble_eq_true rfl) (Nat.le_of_ble_eq_true rfl) (xm_Rn_le (Nat.le_of_ble_eq_true rfl) (t_X2_mostEarningFloor  hS e12).1) ?_
        have hS := (t_X2_mostEarningFloor  hS e12).2
        show xm_W _ _ _ 24 _ [.int v10] _
        exact xr_i (inj := xti) rfl rfl rfl rfl hf hQ hS
      · refine xw_VX (x := q13) rfl rfl (xkf (xs_k hS rfl rfl : xm_k h5 160 = (0, 0))) (Nat.le_of_ble_eq_true rfl) (Nat.le_of_ble_eq_true rfl) (xm_Rn_le (Nat.le_of_ble_eq_true rfl) (t_X10_requireSlots  hS e9).1) rfl ?_
        have hS := (t_X10_requireSlots  hS e9).2
        exact xr_x (inj := xti) rfl hf hQ hS
    · refine xw_SX (x := q16) rfl (Nat.le_of_ble_eq_true rfl) (Nat.le_of_ble_eq_true rfl) (xm_Rn_le (Nat.le_of_ble_eq_true rfl) (t_X10_requireUser  hS e6).1) rfl ?_
      have hS := (t_X10_requireUser  hS e6).2
      exact xr_x (inj := xti) rfl hf hQ hS
  · refine xw_VX (x := q19) rfl rfl (xkf (xs_k hS rfl rfl : xm_k h 160 = (0, 0))) (Nat.le_of_ble_eq_true rfl) (Nat.le_of_ble_eq_true rfl) (xm_Rn_le (Nat.le_of_ble_eq_true rfl) (t_X10_requireTag  hS e3).1) rfl ?_
    have hS := (t_X10_requireTag  hS e3).2
    exact xr_x (inj := xti) rfl hf hQ hS
