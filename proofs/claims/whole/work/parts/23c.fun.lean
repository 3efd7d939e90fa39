/-! printed by wip/gen/gen23.py: methods as functions of their arguments and the heap -/
def f_X11_campaignStatement (N : Nat) (h : xm_H) : Option (Int32 × xm_H) := (if (xm_i h 307 14) = (8 : Int32) then (xb (f_X11_fail (5 : Int32) h) fun v2 h3 => (if v2 = 0 ∨ v2 = 1 then (some (v2, h3)) else none)) else (xb (f_X11_advance N h) fun v6 h7 => (xb (f_X11_newName N 310 (xm_i h 307 14) h7) fun v9 h10 => (if v9 = 0 then (some ((0 : Int32), h10)) else (xb (f_X11_numberTo N ((15 : Int32) + (xm_i h 307 14)) (1 : Int32) (999 : Int32) h10) fun v13 h14 => (if v13 = 0 then (some ((0 : Int32), h14)) else (xb (f_X11_numberTo N ((23 : Int32) + (xm_i h 307 14)) (1 : Int32) (9999 : Int32) h14) fun v17 h18 => (if v17 = 0 then (some ((0 : Int32), h18)) else (xb (f_X11_numberTo N ((31 : Int32) + (xm_i h 307 14)) (1 : Int32) (9 : Int32) h18) fun v21 h22 => (if v21 = 0 then (some ((0 : Int32), h22)) else (xb (f_X11_numberTo N ((39 : Int32) + (xm_i h 307 14)) (1 : Int32) (999 : Int32) h22) fun v25 h26 => (if v25 = 0 then (some ((0 : Int32), h26)) else (xb (f_X11_target N (xm_i h 307 14) h26) fun v29 h30 => (if v29 = 0 then (some ((0 : Int32), h30)) else (xl (xm_si h30 307 14 ((xm_i h30 307 14) + (1 : Int32))) fun h33 => (some ((1 : Int32), h33)))))))))))))))))
theorem t_X11_campaignStatement {N : Nat} {ρ : Nat} {δ : Nat} {h : xm_H} {w : Int32 × xm_H}  (hS : xS ρ δ h) (hf : f_X11_campaignStatement N h = some w) : xm_Rn xX 7 159 [.ref 302] h (xji w.1) w.2 ∧ xS ρ δ w.2 := by
  refine xt_mk (φ := fun h => xS ρ δ h) (M := xM_X11_campaignStatement) (ls := [some (.ref 302), none]) rfl (Nat.le_of_ble_eq_true rfl) rfl (fun Q hQ => ?_)
  unfold f_X11_campaignStatement at hf
  refine xw_G (pc' := 1) (st' := [.ref 302]) rfl rfl trivial ?_
  refine xw_gr rfl (xkf (xs_k hS rfl rfl : xm_k h 302 = (11, 0))) (xs_r hS rfl) ?_
  refine xw_G (pc' := 6) (st' := [.int (14 : Int32), .ref 307]) rfl rfl trivial ?_
  refine xa_ld (t := 100) (τ := 0) (v := .int (xm_i h 307 14)) rfl rfl (xkf (xs_k hS rfl rfl : xm_k h 307 = (100, 72))) (xkn (xs_k hS rfl rfl : xm_k h 307 = (100, 72))) (by decide : xin (14 : Int32) 72) rfl ?_
  refine xw_G (pc' := 8) (ls' := [some (.ref 302), some (.int (xm_i h 307 14))]) (st' := []) rfl rfl (Nat.le_of_ble_eq_true rfl) ?_
  refine xw_G (pc' := 9) (st' := [.int (xm_i h 307 14)]) rfl rfl trivial ?_
  refine xw_G (pc' := 11) (st' := [.int (8 : Int32), .int (xm_i h 307 14)]) rfl rfl trivial ?_
  refine xj_ic_ne rfl hf (fun hc1 hf => ?_) (fun hc1 hf => ?_)
  · refine xw_G (pc' := 15) (st' := [.ref 302]) rfl rfl trivial ?_
    refine xw_G (pc' := 16) (st' := [.int (5 : Int32), .ref 302]) rfl rfl trivial ?_
    refine xb_e hf (fun v2 h3 e4 hf => ?_)
    refine xw_V (v := some (.int v2)) rfl rfl (xkf (xs_k hS rfl rfl : xm_k h 302 = (11, 0))) (Nat.le_of_ble_eq_true rfl) (Nat.le_of_ble_eq_true rfl) (xm_Rn_le (Nat.le_of_ble_eq_true rfl) (t_X11_fail  hS e4).1) ?_
    have hS := (t_X11_fail  hS e4).2
    show xm_W _ _ _ 19 _ [.int v2] _
    refine xg_e hf (fun hg5 hf => ?_)
    exact xr_i (inj := xji) rfl rfl (xnar_z hg5).1 rfl hf hQ hS
  · refine xw_G (pc' := 21) (st' := [.ref 302]) rfl rfl trivial ?_
    refine xb_e hf (fun v6 h7 e8 hf => ?_)
    refine xw_V (v := some (.int v6)) rfl rfl (xkf (xs_k hS rfl rfl : xm_k h 302 = (11, 0))) (Nat.le_of_ble_eq_true rfl) (Nat.le_of_ble_eq_true rfl) (xm_Rn_le (Nat.le_of_ble_eq_true rfl) (t_X11_advance  hS e8).1) ?_
    have hS := (t_X11_advance  hS e8).2
    show xm_W _ _ _ 24 _ [.int v6] _
    refine xw_G (pc' := 25) (st' := []) rfl rfl rfl ?_
    refine xw_G (pc' := 26) (st' := [.ref 302]) rfl rfl trivial ?_
    refine xw_G (pc' := 27) (st' := [.ref 302, .ref 302]) rfl rfl trivial ?_
    refine xw_gr rfl (xkf (xs_k hS rfl rfl : xm_k h7 302 = (11, 0))) (xs_r hS rfl) ?_
    refine xw_G (pc' := 31) (st' := [.int (xm_i h 307 14), .ref 310, .ref 302]) rfl rfl trivial ?_
    refine xb_e hf (fun v9 h10 e11 hf => ?_)
    refine xw_V (v := some (.int v9)) rfl rfl (xkf (xs_k hS rfl rfl : xm_k h7 302 = (11, 0))) (Nat.le_of_ble_eq_true rfl) (Nat.le_of_ble_eq_true rfl) (xm_Rn_le (Nat.le_of_ble_eq_true rfl) (t_X11_newName  hS e11).1) ?_
    have hS := (t_X11_newName  hS e11).2
    show xm_W _ _ _ 34 _ [.int v9] _
    refine xj_if_eq rfl hf (fun hc12 hf => ?_) (fun hc12 hf => ?_)
    · refine xw_G (pc' := 105) (st' := [.int (0 : Int32)]) rfl rfl trivial ?_
      exact xr_i (inj := xji) rfl rfl rfl rfl hf hQ hS
    · refine xw_G (pc' := 38) (st' := [.ref 302]) rfl rfl trivial ?_
      refine xw_G (pc' := 40) (st' := [.int (15 : Int32), .ref 302]) rfl rfl trivial ?_
      refine xw_G (pc' := 41) (st' := [.int (xm_i h 307 14), .int (15 : Int32), .ref 302]) rfl rfl trivial ?_
      refine xw_G (pc' := 42) (st' := [.int ((15 : Int32) + (xm_i h 307 14)), .ref 302]) rfl rfl trivial ?_
      refine xw_G (pc' := 43) (st' := [.int (1 : Int32), .int ((15 : Int32) + (xm_i h 307 14)), .ref 302]) rfl rfl trivial ?_
      refine xw_G (pc' := 46) (st' := [.int (999 : Int32), .int (1 : Int32), .int ((15 : Int32) + (xm_i h 307 14)), .ref 302]) rfl rfl trivial ?_
      refine xb_e hf (fun v13 h14 e15 hf => ?_)
      refine xw_V (v := some (.int v13)) rfl rfl (xkf (xs_k hS rfl rfl : xm_k h10 302 = (11, 0))) (Nat.le_of_ble_eq_true rfl) (Nat.le_of_ble_eq_true rfl) (xm_Rn_le (Nat.le_of_ble_eq_true rfl) (t_X11_numberTo  hS e15).1) ?_
      have hS := (t_X11_numberTo  hS e15).2
      show xm_W _ _ _ 49 _ [.int v13] _
      refine xj_if_eq rfl hf (fun hc16 hf => ?_) (fun hc16 hf => ?_)
      · refine xw_G (pc' := 105) (st' := [.int (0 : Int32)]) rfl rfl trivial ?_
        exact xr_i (inj := xji) rfl rfl rfl rfl hf hQ hS
      · refine xw_G (pc' := 53) (st' := [.ref 302]) rfl rfl trivial ?_
        refine xw_G (pc' := 55) (st' := [.int (23 : Int32), .ref 302]) rfl rfl trivial ?_
        refine xw_G (pc' := 56) (st' := [.int (xm_i h 307 14), .int (23 : Int32), .ref 302]) rfl rfl trivial ?_
        refine xw_G (pc' := 57) (st' := [.int ((23 : Int32) + (xm_i h 307 14)), .ref 302]) rfl rfl trivial ?_
        refine xw_G (pc' := 58) (st' := [.int (1 : Int32), .int ((23 : Int32) + (xm_i h 307 14)), .ref 302]) rfl rfl trivial ?_
        refine xw_G (pc' := 61) (st' := [.int (9999 : Int32), .int (1 : Int32), .int ((23 : Int32) + (xm_i h 307 14)), .ref 302]) rfl rfl trivial ?_
        refine xb_e hf (fun v17 h18 e19 hf => ?_)
        refine xw_V (v := some (.int v17)) rfl rfl (xkf (xs_k hS rfl rfl : xm_k h14 302 = (11, 0))) (Nat.le_of_ble_eq_true rfl) (Nat.le_of_ble_eq_true rfl) (xm_Rn_le (Nat.le_of_ble_eq_true rfl) (t_X11_numberTo  hS e19).1) ?_
        have hS := (t_X11_numberTo  hS e19).2
        show xm_W _ _ _ 64 _ [.int v17] _
        refine xj_if_eq rfl hf (fun hc20 hf => ?_) (fun hc20 hf => ?_)
        · refine xw_G (pc' := 105) (st' := [.int (0 : Int32)]) rfl rfl trivial ?_
          exact xr_i (inj := xji) rfl rfl rfl rfl hf hQ hS
        · refine xw_G (pc' := 68) (st' := [.ref 302]) rfl rfl trivial ?_
          refine xw_G (pc' := 70) (st' := [.int (31 : Int32), .ref 302]) rfl rfl trivial ?_
          refine xw_G (pc' := 71) (st' := [.int (xm_i h 307 14), .int (31 : Int32), .ref 302]) rfl rfl trivial ?_
          refine xw_G (pc' := 72) (st' := [.int ((31 : Int32) + (xm_i h 307 14)), .ref 302]) rfl rfl trivial ?_
          refine xw_G (pc' := 73) (st' := [.int (1 : Int32), .int ((31 : Int32) + (xm_i h 307 14)), .ref 302]) rfl rfl trivial ?_
          refine xw_G (pc' := 75) (st' := [.int (9 : Int32), .int (1 : Int32), .int ((31 : Int32) + (xm_i h 307 14)), .ref 302]) rfl rfl trivial ?_
          refine xb_e hf (fun v21 h22 e23 hf => ?_)
          refine xw_V (v := some (.int v21)) rfl rfl (xkf (xs_k hS rfl rfl : xm_k h18 302 = (11, 0))) (Nat.le_of_ble_eq_true rfl) (Nat.le_of_ble_eq_true rfl) (xm_Rn_le (Nat.le_of_ble_eq_true rfl) (t_X11_numberTo  hS e23).1) ?_
          have hS := (t_X11_numberTo  hS e23).2
          show xm_W _ _ _ 78 _ [.int v21] _
          refine xj_if_eq rfl hf (fun hc24 hf => ?_) (fun hc24 hf => ?_)
          · refine xw_G (pc' := 105) (st' := [.int (0 : Int32)]) rfl rfl trivial ?_
            exact xr_i (inj := xji) rfl rfl rfl rfl hf hQ hS
          · refine xw_G (pc' := 82) (st' := [.ref 302]) rfl rfl trivial ?_
            refine xw_G (pc' := 84) (st' := [.int (39 : Int32), .ref 302]) rfl rfl trivial ?_
            refine xw_G (pc' := 85) (st' := [.int (xm_i h 307 14), .int (39 : Int32), .ref 302]) rfl rfl trivial ?_
            refine xw_G (pc' := 86) (st' := [.int ((39 : Int32) + (xm_i h 307 14)), .ref 302]) rfl rfl trivial ?_
            refine xw_G (pc' := 87) (st' := [.int (1 : Int32), .int ((39 : Int32) + (xm_i h 307 14)), .ref 302]) rfl rfl trivial ?_
            refine xw_G (pc' := 90) (st' := [.int (999 : Int32), .int (1 : Int32), .int ((39 : Int32) + (xm_i h 307 14)), .ref 302]) rfl rfl trivial ?_
            refine xb_e hf (fun v25 h26 e27 hf => ?_)
            refine xw_V (v := some (.int v25)) rfl rfl (xkf (xs_k hS rfl rfl : xm_k h22 302 = (11, 0))) (Nat.le_of_ble_eq_true rfl) (Nat.le_of_ble_eq_true rfl) (xm_Rn_le (Nat.le_of_ble_eq_true rfl) (t_X11_numberTo  hS e27).1) ?_
            have hS := (t_X11_numberTo  hS e27).2
            show xm_W _ _ _ 93 _ [.int v25] _
            refine xj_if_eq rfl hf (fun hc28 hf => ?_) (fun hc28 hf => ?_)
            · refine xw_G (pc' := 105) (st' := [.int (0 : Int32)]) rfl rfl trivial ?_
              exact xr_i (inj := xji) rfl rfl rfl rfl hf hQ hS
            · refine xw_G (pc' := 97) (st' := [.ref 302]) rfl rfl trivial ?_
              refine xw_G (pc' := 98) (st' := [.int (xm_i h 307 14), .ref 302]) rfl rfl trivial ?_
              refine xb_e hf (fun v29 h30 e31 hf => ?_)
              refine xw_V (v := some (.int v29)) rfl rfl (xkf (xs_k hS rfl rfl : xm_k h26 302 = (11, 0))) (Nat.le_of_ble_eq_true rfl) (Nat.le_of_ble_eq_true rfl) (xm_Rn_le (Nat.le_of_ble_eq_true rfl) (t_X11_target  hS e31).1) ?_
              have hS := (t_X11_target  hS e31).2
              show xm_W _ _ _ 101 _ [.int v29] _
              refine xj_if_ne rfl hf (fun hc32 hf => ?_) (fun hc32 hf => ?_)
              · refine xw_G (pc' := 105) (st' := [.int (0 : Int32)]) rfl rfl trivial ?_
                exact xr_i (inj := xji) rfl rfl rfl rfl hf hQ hS
              · refine xw_G (pc' := 107) (st' := [.ref 302]) rfl rfl trivial ?_
                refine xw_gr rfl (xkf (xs_k hS rfl rfl : xm_k h30 302 = (11, 0))) (xs_r hS rfl) ?_
                refine xw_G (pc' := 112) (st' := [.int (14 : Int32), .ref 307]) rfl rfl trivial ?_
                refine xw_G (pc' := 113) (st' := [.int (14 : Int32), .ref 307, .int (14 : Int32), .ref 307]) rfl rfl ⟨rfl, rfl⟩ ?_
                refine xa_ld (t := 100) (τ := 0) (v := .int (xm_i h30 307 14)) rfl rfl (xkf (xs_k hS rfl rfl : xm_k h30 307 = (100, 72))) (xkn (xs_k hS rfl rfl : xm_k h30 307 = (100, 72))) (by decide : xin (14 : Int32) 72) rfl ?_
                refine xw_G (pc' := 115) (st' := [.int (1 : Int32), .int (xm_i h30 307 14), .int (14 : Int32), .ref 307]) rfl rfl trivial ?_
                refine xw_G (pc' := 116) (st' := [.int ((xm_i h30 307 14) + (1 : Int32)), .int (14 : Int32), .ref 307]) rfl rfl trivial ?_
                refine xa_i rfl (xkf (xs_k hS rfl rfl : xm_k h30 307 = (100, 72))) (xkn (xs_k hS rfl rfl : xm_k h30 307 = (100, 72))) (by decide : xin (14 : Int32) 72) (Nat.le_of_ble_eq_true rfl) hf (fun h33 e34 hf => ?_)
                have hS := xS_si hS e34
                refine xw_G (pc' := 118) (st' := [.int (1 : Int32)]) rfl rfl trivial ?_
                exact xr_i (inj := xji) rfl rfl rfl rfl hf hQ hS
def f_X11_campaignName (N : Nat) (h : xm_H) : Option (Int32 × xm_H) := (if (xm_i h 302 12) = (2 : Int32) then (xb (f_X11_isWord N 75 h) fun v2 h3 => (if v2 = 0 then (xb (f_X11_find N 310 (xm_i h3 307 14) (xm_l h3 302 16) h3) fun v6 h7 => (xl (xm_si h7 302 23 v6) fun h9 => (if (xm_i h9 302 23) = (-1 : Int32) then (xb (f_X11_fail (4 : Int32) h9) fun v12 h13 => (if v12 = 0 ∨ v12 = 1 then (some (v12, h13)) else none)) else (xb (f_X11_advance N h9) fun v16 h17 => (if v16 = 0 ∨ v16 = 1 then (some (v16, h17)) else none))))) else (xb (f_X11_fail (2 : Int32) h3) fun v20 h21 => (if v20 = 0 ∨ v20 = 1 then (some (v20, h21)) else none)))) else (xb (f_X11_fail (2 : Int32) h) fun v24 h25 => (if v24 = 0 ∨ v24 = 1 then (some (v24, h25)) else none)))
theorem t_X11_campaignName {N : Nat} {ρ : Nat} {δ : Nat} {h : xm_H} {w : Int32 × xm_H}  (hS : xS ρ δ h) (hf : f_X11_campaignName N h = some w) : xm_Rn xX 6 160 [.ref 302] h (xji w.1) w.2 ∧ xS ρ δ w.2 := by
  refine xt_mk (φ := fun h => xS ρ δ h) (M := xM_X11_campaignName) (ls := [some (.ref 302)]) rfl (Nat.le_of_ble_eq_true rfl) rfl (fun Q hQ => ?_)
  unfold f_X11_campaignName at hf
  refine xw_G (pc' := 1) (st' := [.ref 302]) rfl rfl trivial ?_
  refine xw_G (pc' := 4) (st' := [.int (xm_i h 302 12)]) rfl rfl (xkf (xs_k hS rfl rfl : xm_k h 302 = (11, 0))) ?_
  refine xw_G (pc' := 5) (st' := [.int (2 : Int32), .int (xm_i h 302 12)]) rfl rfl trivial ?_
  refine xj_ic_ne rfl hf (fun hc1 hf => ?_) (fun hc1 hf => ?_)
  · refine xw_G (pc' := 9) (st' := [.ref 302]) rfl rfl trivial ?_
    refine xw_G (pc' := 11) (st' := [.ref 75, .ref 302]) rfl rfl trivial ?_
    refine xb_e hf (fun v2 h3 e4 hf => ?_)
    refine xw_V (v := some (.int v2)) rfl rfl (xkf (xs_k hS rfl rfl : xm_k h 302 = (11, 0))) (Nat.le_of_ble_eq_true rfl) (Nat.le_of_ble_eq_true rfl) (xm_Rn_le (Nat.le_of_ble_eq_true rfl) (t_X11_isWord  hS e4).1) ?_
    have hS := (t_X11_isWord  hS e4).2
    show xm_W _ _ _ 14 _ [.int v2] _
    refine xj_if_eq rfl hf (fun hc5 hf => ?_) (fun hc5 hf => ?_)
    · refine xw_G (pc' := 24) (st' := [.ref 302]) rfl rfl trivial ?_
      refine xw_G (pc' := 25) (st' := [.ref 302, .ref 302]) rfl rfl trivial ?_
      refine xw_gr rfl (xkf (xs_k hS rfl rfl : xm_k h3 302 = (11, 0))) (xs_r hS rfl) ?_
      refine xw_G (pc' := 29) (st' := [.ref 302, .ref 310, .ref 302]) rfl rfl trivial ?_
      refine xw_gr rfl (xkf (xs_k hS rfl rfl : xm_k h3 302 = (11, 0))) (xs_r hS rfl) ?_
      refine xw_G (pc' := 34) (st' := [.int (14 : Int32), .ref 307, .ref 310, .ref 302]) rfl rfl trivial ?_
      refine xa_ld (t := 100) (τ := 0) (v := .int (xm_i h3 307 14)) rfl rfl (xkf (xs_k hS rfl rfl : xm_k h3 307 = (100, 72))) (xkn (xs_k hS rfl rfl : xm_k h3 307 = (100, 72))) (by decide : xin (14 : Int32) 72) rfl ?_
      refine xw_G (pc' := 36) (st' := [.ref 302, .int (xm_i h3 307 14), .ref 310, .ref 302]) rfl rfl trivial ?_
      refine xw_G (pc' := 39) (st' := [.long (xm_l h3 302 16), .int (xm_i h3 307 14), .ref 310, .ref 302]) rfl rfl (xkf (xs_k hS rfl rfl : xm_k h3 302 = (11, 0))) ?_
      refine xb_e hf (fun v6 h7 e8 hf => ?_)
      refine xw_S (v := some (.int v6)) rfl (Nat.le_of_ble_eq_true rfl) (Nat.le_of_ble_eq_true rfl) (xm_Rn_le (Nat.le_of_ble_eq_true rfl) (t_X11_find  hS e8).1) ?_
      have hS := (t_X11_find  hS e8).2
      show xm_W _ _ _ 42 _ [.int v6, .ref 302] _
      refine xp_i rfl (xkf (xs_k hS rfl rfl : xm_k h7 302 = (11, 0))) (Nat.le_of_ble_eq_true rfl) hf (fun h9 e10 hf => ?_)
      have hS := xS_si hS e10
      refine xw_G (pc' := 46) (st' := [.ref 302]) rfl rfl trivial ?_
      refine xw_G (pc' := 49) (st' := [.int (xm_i h9 302 23)]) rfl rfl (xkf (xs_k hS rfl rfl : xm_k h9 302 = (11, 0))) ?_
      refine xw_G (pc' := 50) (st' := [.int (-1 : Int32), .int (xm_i h9 302 23)]) rfl rfl trivial ?_
      refine xj_ic_eq rfl hf (fun hc11 hf => ?_) (fun hc11 hf => ?_)
      · refine xw_G (pc' := 61) (st' := [.ref 302]) rfl rfl trivial ?_
        refine xw_G (pc' := 62) (st' := [.int (4 : Int32), .ref 302]) rfl rfl trivial ?_
        refine xb_e hf (fun v12 h13 e14 hf => ?_)
        refine xw_V (v := some (.int v12)) rfl rfl (xkf (xs_k hS rfl rfl : xm_k h9 302 = (11, 0))) (Nat.le_of_ble_eq_true rfl) (Nat.le_of_ble_eq_true rfl) (xm_Rn_le (Nat.le_of_ble_eq_true rfl) (t_X11_fail  hS e14).1) ?_
        have hS := (t_X11_fail  hS e14).2
        show xm_W _ _ _ 65 _ [.int v12] _
        refine xg_e hf (fun hg15 hf => ?_)
        exact xr_i (inj := xji) rfl rfl (xnar_z hg15).1 rfl hf hQ hS
      · refine xw_G (pc' := 54) (st' := [.ref 302]) rfl rfl trivial ?_
        refine xb_e hf (fun v16 h17 e18 hf => ?_)
        refine xw_V (v := some (.int v16)) rfl rfl (xkf (xs_k hS rfl rfl : xm_k h9 302 = (11, 0))) (Nat.le_of_ble_eq_true rfl) (Nat.le_of_ble_eq_true rfl) (xm_Rn_le (Nat.le_of_ble_eq_true rfl) (t_X11_advance  hS e18).1) ?_
        have hS := (t_X11_advance  hS e18).2
        show xm_W _ _ _ 57 _ [.int v16] _
        refine xw_G (pc' := 65) (st' := [.int v16]) rfl rfl trivial ?_
        refine xg_e hf (fun hg19 hf => ?_)
        exact xr_i (inj := xji) rfl rfl (xnar_z hg19).1 rfl hf hQ hS
    · refine xw_G (pc' := 18) (st' := [.ref 302]) rfl rfl trivial ?_
      refine xw_G (pc' := 19) (st' := [.int (2 : Int32), .ref 302]) rfl rfl trivial ?_
      refine xb_e hf (fun v20 h21 e22 hf => ?_)
      refine xw_V (v := some (.int v20)) rfl rfl (xkf (xs_k hS rfl rfl : xm_k h3 302 = (11, 0))) (Nat.le_of_ble_eq_true rfl) (Nat.le_of_ble_eq_true rfl) (xm_Rn_le (Nat.le_of_ble_eq_true rfl) (t_X11_fail  hS e22).1) ?_
      have hS := (t_X11_fail  hS e22).2
      show xm_W _ _ _ 22 _ [.int v20] _
      refine xg_e hf (fun hg23 hf => ?_)
      exact xr_i (inj := xji) rfl rfl (xnar_z hg23).1 rfl hf hQ hS
  · refine xw_G (pc' := 18) (st' := [.ref 302]) rfl rfl trivial ?_
    refine xw_G (pc' := 19) (st' := [.int (2 : Int32), .ref 302]) rfl rfl trivial ?_
    refine xb_e hf (fun v24 h25 e26 hf => ?_)
    refine xw_V (v := some (.int v24)) rfl rfl (xkf (xs_k hS rfl rfl : xm_k h 302 = (11, 0))) (Nat.le_of_ble_eq_true rfl) (Nat.le_of_ble_eq_true rfl) (xm_Rn_le (Nat.le_of_ble_eq_true rfl) (t_X11_fail  hS e26).1) ?_
    have hS := (t_X11_fail  hS e26).2
    show xm_W _ _ _ 22 _ [.int v24] _
    refine xg_e hf (fun hg27 hf => ?_)
    exact xr_i (inj := xji) rfl rfl (xnar_z hg27).1 rfl hf hQ hS
def f_X11_paceStatement (N : Nat) (h : xm_H) : Option (Int32 × xm_H) := (xb (f_X11_advance N h) fun v1 h2 => (xb (f_X11_campaignName N h2) fun v4 h5 => (if v4 = 0 then (some ((0 : Int32), h5)) else (xb (f_X11_isWord N 81 h5) fun v8 h9 => (if v8 = 0 then (xb (f_X11_isWord N 83 h9) fun v12 h13 => (if v12 = 0 then (xb (f_X11_isWord N 85 h13) fun v16 h17 => (if v16 = 0 then (xb (f_X11_fail (2 : Int32) h17) fun v20 h21 => (if v20 = 0 ∨ v20 = 1 then (some (v20, h21)) else none)) else (if xin ((55 : Int32) + (xm_i h17 302 23)) 72 then (xl (xm_si h17 307 (Int32.toNatClampNeg ((55 : Int32) + (xm_i h17 302 23))) (2 : Int32)) fun h25 => (xb (f_X11_advance N h25) fun v27 h28 => (if v27 = 0 ∨ v27 = 1 then (some (v27, h28)) else none))) else none))) else (if xin ((55 : Int32) + (xm_i h13 302 23)) 72 then (xl (xm_si h13 307 (Int32.toNatClampNeg ((55 : Int32) + (xm_i h13 302 23))) (1 : Int32)) fun h32 => (xb (f_X11_advance N h32) fun v34 h35 => (if v34 = 0 ∨ v34 = 1 then (some (v34, h35)) else none))) else none))) else (if xin ((55 : Int32) + (xm_i h9 302 23)) 72 then (xl (xm_si h9 307 (Int32.toNatClampNeg ((55 : Int32) + (xm_i h9 302 23))) (0 : Int32)) fun h39 => (xb (f_X11_advance N h39) fun v41 h42 => (if v41 = 0 ∨ v41 = 1 then (some (v41, h42)) else none))) else none))))))
theorem t_X11_paceStatement {N : Nat} {ρ : Nat} {δ : Nat} {h : xm_H} {w : Int32 × xm_H}  (hS : xS ρ δ h) (hf : f_X11_paceStatement N h = some w) : xm_Rn xX 7 161 [.ref 302] h (xji w.1) w.2 ∧ xS ρ δ w.2 := by
  refine xt_mk (φ := fun h => xS ρ δ h) (M := xM_X11_paceStatement) (ls := [some (.ref 302), none]) rfl (Nat.le_of_ble_eq_true rfl) rfl (fun Q hQ => ?_)
  unfold f_X11_paceStatement at hf
  refine xw_G (pc' := 1) (st' := [.ref 302]) rfl rfl trivial ?_
  refine xb_e hf (fun v1 h2 e3 hf => ?_)
  refine xw_V (v := some (.int v1)) rfl rfl (xkf (xs_k hS rfl rfl : xm_k h 302 = (11, 0))) (Nat.le_of_ble_eq_true rfl) (Nat.le_of_ble_eq_true rfl) (xm_Rn_le (Nat.le_of_ble_eq_true rfl) (t_X11_advance  hS e3).1) ?_
  have hS := (t_X11_advance  hS e3).2
  show xm_W _ _ _ 4 _ [.int v1] _
  refine xw_G (pc' := 5) (st' := []) rfl rfl rfl ?_
  refine xw_G (pc' := 6) (st' := [.ref 302]) rfl rfl trivial ?_
  refine xb_e hf (fun v4 h5 e6 hf => ?_)
  refine xw_V (v := some (.int v4)) rfl rfl (xkf (xs_k hS rfl rfl : xm_k h2 302 = (11, 0))) (Nat.le_of_ble_eq_true rfl) (Nat.le_of_ble_eq_true rfl) (xm_Rn_le (Nat.le_of_ble_eq_true rfl) (t_X11_campaignName  hS e6).1) ?_
  have hS := (t_X11_campaignName  hS e6).2
  show xm_W _ _ _ 9 _ [.int v4] _
  refine xj_if_ne rfl hf (fun hc7 hf => ?_) (fun hc7 hf => ?_)
  · refine xw_G (pc' := 13) (st' := [.int (0 : Int32)]) rfl rfl trivial ?_
    exact xr_i (inj := xji) rfl rfl rfl rfl hf hQ hS
  · refine xw_G (pc' := 15) (st' := [.ref 302]) rfl rfl trivial ?_
    refine xw_G (pc' := 17) (st' := [.ref 81, .ref 302]) rfl rfl trivial ?_
    refine xb_e hf (fun v8 h9 e10 hf => ?_)
    refine xw_V (v := some (.int v8)) rfl rfl (xkf (xs_k hS rfl rfl : xm_k h5 302 = (11, 0))) (Nat.le_of_ble_eq_true rfl) (Nat.le_of_ble_eq_true rfl) (xm_Rn_le (Nat.le_of_ble_eq_true rfl) (t_X11_isWord  hS e10).1) ?_
    have hS := (t_X11_isWord  hS e10).2
    show xm_W _ _ _ 20 _ [.int v8] _
    refine xj_if_eq rfl hf (fun hc11 hf => ?_) (fun hc11 hf => ?_)
    · refine xw_G (pc' := 28) (st' := [.ref 302]) rfl rfl trivial ?_
      refine xw_G (pc' := 30) (st' := [.ref 83, .ref 302]) rfl rfl trivial ?_
      refine xb_e hf (fun v12 h13 e14 hf => ?_)
      refine xw_V (v := some (.int v12)) rfl rfl (xkf (xs_k hS rfl rfl : xm_k h9 302 = (11, 0))) (Nat.le_of_ble_eq_true rfl) (Nat.le_of_ble_eq_true rfl) (xm_Rn_le (Nat.le_of_ble_eq_true rfl) (t_X11_isWord  hS e14).1) ?_
      have hS := (t_X11_isWord  hS e14).2
      show xm_W _ _ _ 33 _ [.int v12] _
      refine xj_if_eq rfl hf (fun hc15 hf => ?_) (fun hc15 hf => ?_)
      · refine xw_G (pc' := 41) (st' := [.ref 302]) rfl rfl trivial ?_
        refine xw_G (pc' := 43) (st' := [.ref 85, .ref 302]) rfl rfl trivial ?_
        refine xb_e hf (fun v16 h17 e18 hf => ?_)
        refine xw_V (v := some (.int v16)) rfl rfl (xkf (xs_k hS rfl rfl : xm_k h13 302 = (11, 0))) (Nat.le_of_ble_eq_true rfl) (Nat.le_of_ble_eq_true rfl) (xm_Rn_le (Nat.le_of_ble_eq_true rfl) (t_X11_isWord  hS e18).1) ?_
        have hS := (t_X11_isWord  hS e18).2
        show xm_W _ _ _ 46 _ [.int v16] _
        refine xj_if_eq rfl hf (fun hc19 hf => ?_) (fun hc19 hf => ?_)
        · refine xw_G (pc' := 54) (st' := [.int (-1 : Int32)]) rfl rfl trivial ?_
          refine xw_G (pc' := 55) (ls' := [some (.ref 302), some (.int (-1 : Int32))]) (st' := []) rfl rfl (Nat.le_of_ble_eq_true rfl) ?_
          refine xw_G (pc' := 56) (st' := [.int (-1 : Int32)]) rfl rfl trivial ?_
          refine xw_G (pc' := 57) (st' := [.int (-1 : Int32), .int (-1 : Int32)]) rfl rfl trivial ?_
          refine xw_G (pc' := 60) (st' := []) rfl rfl trivial ?_
          refine xw_G (pc' := 61) (st' := [.ref 302]) rfl rfl trivial ?_
          refine xw_G (pc' := 62) (st' := [.int (2 : Int32), .ref 302]) rfl rfl trivial ?_
          refine xb_e hf (fun v20 h21 e22 hf => ?_)
          refine xw_V (v := some (.int v20)) rfl rfl (xkf (xs_k hS rfl rfl : xm_k h17 302 = (11, 0))) (Nat.le_of_ble_eq_true rfl) (Nat.le_of_ble_eq_true rfl) (xm_Rn_le (Nat.le_of_ble_eq_true rfl) (t_X11_fail  hS e22).1) ?_
          have hS := (t_X11_fail  hS e22).2
          show xm_W _ _ _ 65 _ [.int v20] _
          refine xg_e hf (fun hg23 hf => ?_)
          exact xr_i (inj := xji) rfl rfl (xnar_z hg23).1 rfl hf hQ hS
        · refine xw_G (pc' := 50) (st' := [.int (2 : Int32)]) rfl rfl trivial ?_
          refine xw_G (pc' := 54) (st' := [.int (2 : Int32)]) rfl rfl trivial ?_
          refine xw_G (pc' := 55) (ls' := [some (.ref 302), some (.int (2 : Int32))]) (st' := []) rfl rfl (Nat.le_of_ble_eq_true rfl) ?_
          refine xw_G (pc' := 56) (st' := [.int (2 : Int32)]) rfl rfl trivial ?_
          refine xw_G (pc' := 57) (st' := [.int (-1 : Int32), .int (2 : Int32)]) rfl rfl trivial ?_
          refine xw_G (pc' := 66) (st' := []) rfl rfl trivial ?_
          refine xw_G (pc' := 67) (st' := [.ref 302]) rfl rfl trivial ?_
          refine xw_gr rfl (xkf (xs_k hS rfl rfl : xm_k h17 302 = (11, 0))) (xs_r hS rfl) ?_
          refine xw_G (pc' := 72) (st' := [.int (55 : Int32), .ref 307]) rfl rfl trivial ?_
          refine xw_G (pc' := 73) (st' := [.ref 302, .int (55 : Int32), .ref 307]) rfl rfl trivial ?_
          refine xw_G (pc' := 76) (st' := [.int (xm_i h17 302 23), .int (55 : Int32), .ref 307]) rfl rfl (xkf (xs_k hS rfl rfl : xm_k h17 302 = (11, 0))) ?_
          refine xw_G (pc' := 77) (st' := [.int ((55 : Int32) + (xm_i h17 302 23)), .ref 307]) rfl rfl trivial ?_
          refine xw_G (pc' := 78) (st' := [.int (2 : Int32), .int ((55 : Int32) + (xm_i h17 302 23)), .ref 307]) rfl rfl trivial ?_
          refine xg_e hf (fun hg24 hf => ?_)
          refine xa_i rfl (xkf (xs_k hS rfl rfl : xm_k h17 307 = (100, 72))) (xkn (xs_k hS rfl rfl : xm_k h17 307 = (100, 72))) hg24 (Nat.le_of_ble_eq_true rfl) hf (fun h25 e26 hf => ?_)
          have hS := xS_si hS e26
          refine xw_G (pc' := 80) (st' := [.ref 302]) rfl rfl trivial ?_
          refine xb_e hf (fun v27 h28 e29 hf => ?_)
          refine xw_V (v := some (.int v27)) rfl rfl (xkf (xs_k hS rfl rfl : xm_k h25 302 = (11, 0))) (Nat.le_of_ble_eq_true rfl) (Nat.le_of_ble_eq_true rfl) (xm_Rn_le (Nat.le_of_ble_eq_true rfl) (t_X11_advance  hS e29).1) ?_
          have hS := (t_X11_advance  hS e29).2
          show xm_W _ _ _ 83 _ [.int v27] _
          refine xg_e hf (fun hg30 hf => ?_)
          exact xr_i (inj := xji) rfl rfl (xnar_z hg30).1 rfl hf hQ hS
      · refine xw_G (pc' := 37) (st' := [.int (1 : Int32)]) rfl rfl trivial ?_
        refine xw_G (pc' := 54) (st' := [.int (1 : Int32)]) rfl rfl trivial ?_
        refine xw_G (pc' := 55) (ls' := [some (.ref 302), some (.int (1 : Int32))]) (st' := []) rfl rfl (Nat.le_of_ble_eq_true rfl) ?_
        refine xw_G (pc' := 56) (st' := [.int (1 : Int32)]) rfl rfl trivial ?_
        refine xw_G (pc' := 57) (st' := [.int (-1 : Int32), .int (1 : Int32)]) rfl rfl trivial ?_
        refine xw_G (pc' := 66) (st' := []) rfl rfl trivial ?_
        refine xw_G (pc' := 67) (st' := [.ref 302]) rfl rfl trivial ?_
        refine xw_gr rfl (xkf (xs_k hS rfl rfl : xm_k h13 302 = (11, 0))) (xs_r hS rfl) ?_
        refine xw_G (pc' := 72) (st' := [.int (55 : Int32), .ref 307]) rfl rfl trivial ?_
        refine xw_G (pc' := 73) (st' := [.ref 302, .int (55 : Int32), .ref 307]) rfl rfl trivial ?_
        refine xw_G (pc' := 76) (st' := [.int (xm_i h13 302 23), .int (55 : Int32), .ref 307]) rfl rfl (xkf (xs_k hS rfl rfl : xm_k h13 302 = (11, 0))) ?_
        refine xw_G (pc' := 77) (st' := [.int ((55 : Int32) + (xm_i h13 302 23)), .ref 307]) rfl rfl trivial ?_
        refine xw_G (pc' := 78) (st' := [.int (1 : Int32), .int ((55 : Int32) + (xm_i h13 302 23)), .ref 307]) rfl rfl trivial ?_
        refine xg_e hf (fun hg31 hf => ?_)
        refine xa_i rfl (xkf (xs_k hS rfl rfl : xm_k h13 307 = (100, 72))) (xkn (xs_k hS rfl rfl : xm_k h13 307 = (100, 72))) hg31 (Nat.le_of_ble_eq_true rfl) hf (fun h32 e33 hf => ?_)
        have hS := xS_si hS e33
        refine xw_G (pc' := 80) (st' := [.ref 302]) rfl rfl trivial ?_
        refine xb_e hf (fun v34 h35 e36 hf => ?_)
        refine xw_V (v := some (.int v34)) rfl rfl (xkf (xs_k hS rfl rfl : xm_k h32 302 = (11, 0))) (Nat.le_of_ble_eq_true rfl) (Nat.le_of_ble_eq_true rfl) (xm_Rn_le (Nat.le_of_ble_eq_true rfl) (t_X11_advance  hS e36).1) ?_
        have hS := (t_X11_advance  hS e36).2
        show xm_W _ _ _ 83 _ [.int v34] _
        refine xg_e hf (fun hg37 hf => ?_)
        exact xr_i (inj := xji) rfl rfl (xnar_z hg37).1 rfl hf hQ hS
    · refine xw_G (pc' := 24) (st' := [.int (0 : Int32)]) rfl rfl trivial ?_
      refine xw_G (pc' := 54) (st' := [.int (0 : Int32)]) rfl rfl trivial ?_
      refine xw_G (pc' := 55) (ls' := [some (.ref 302), some (.int (0 : Int32))]) (st' := []) rfl rfl (Nat.le_of_ble_eq_true rfl) ?_
      refine xw_G (pc' := 56) (st' := [.int (0 : Int32)]) rfl rfl trivial ?_
      refine xw_G (pc' := 57) (st' := [.int (-1 : Int32), .int (0 : Int32)]) rfl rfl trivial ?_
      refine xw_G (pc' := 66) (st' := []) rfl rfl trivial ?_
      refine xw_G (pc' := 67) (st' := [.ref 302]) rfl rfl trivial ?_
      refine xw_gr rfl (xkf (xs_k hS rfl rfl : xm_k h9 302 = (11, 0))) (xs_r hS rfl) ?_
      refine xw_G (pc' := 72) (st' := [.int (55 : Int32), .ref 307]) rfl rfl trivial ?_
      refine xw_G (pc' := 73) (st' := [.ref 302, .int (55 : Int32), .ref 307]) rfl rfl trivial ?_
      refine xw_G (pc' := 76) (st' := [.int (xm_i h9 302 23), .int (55 : Int32), .ref 307]) rfl rfl (xkf (xs_k hS rfl rfl : xm_k h9 302 = (11, 0))) ?_
      refine xw_G (pc' := 77) (st' := [.int ((55 : Int32) + (xm_i h9 302 23)), .ref 307]) rfl rfl trivial ?_
      refine xw_G (pc' := 78) (st' := [.int (0 : Int32), .int ((55 : Int32) + (xm_i h9 302 23)), .ref 307]) rfl rfl trivial ?_
      refine xg_e hf (fun hg38 hf => ?_)
      refine xa_i rfl (xkf (xs_k hS rfl rfl : xm_k h9 307 = (100, 72))) (xkn (xs_k hS rfl rfl : xm_k h9 307 = (100, 72))) hg38 (Nat.le_of_ble_eq_true rfl) hf (fun h39 e40 hf => ?_)
      have hS := xS_si hS e40
      refine xw_G (pc' := 80) (st' := [.ref 302]) rfl rfl trivial ?_
      refine xb_e hf (fun v41 h42 e43 hf => ?_)
      refine xw_V (v := some (.int v41)) rfl rfl (xkf (xs_k hS rfl rfl : xm_k h39 302 = (11, 0))) (Nat.le_of_ble_eq_true rfl) (Nat.le_of_ble_eq_true rfl) (xm_Rn_le (Nat.le_of_ble_eq_true rfl) (t_X11_advance  hS e43).1) ?_
      have hS := (t_X11_advance  hS e43).2
      show xm_W _ _ _ 83 _ [.int v41] _
      refine xg_e hf (fun hg44 hf => ?_)
      exact xr_i (inj := xji) rfl rfl (xnar_z hg44).1 rfl hf hQ hS
def f_X11_apartStatement (N : Nat) (h : xm_H) : Option (Int32 × xm_H) := (if (xm_i h 307 63) = (8 : Int32) then (xb (f_X11_fail (5 : Int32) h) fun v2 h3 => (if v2 = 0 ∨ v2 = 1 then (some (v2, h3)) else none)) else (xb (f_X11_advance N h) fun v6 h7 => (xb (f_X11_campaignName N h7) fun v9 h10 => (if v9 = 0 then (some ((0 : Int32), h10)) else (if (xm_i h10 302 12) = (2 : Int32) then (xb (f_X11_find N 310 (xm_i h10 307 14) (xm_l h10 302 16) h10) fun v14 h15 => (if v14 = (xm_i h10 302 23) then (xb (f_X11_fail (4 : Int32) h15) fun v18 h19 => (if v18 = 0 ∨ v18 = 1 then (some (v18, h19)) else none)) else (xb (f_X11_campaignName N h15) fun v22 h23 => (if v22 = 0 then (some ((0 : Int32), h23)) else (if xin ((64 : Int32) + (xm_i h23 307 63)) 72 then (xl (xm_si h23 307 (Int32.toNatClampNeg ((64 : Int32) + (xm_i h23 307 63))) (((1 : Int32) <<< ((xm_i h10 302 23) &&& 31)) ||| ((1 : Int32) <<< ((xm_i h23 302 23) &&& 31)))) fun h27 => (xl (xm_si h27 307 63 ((xm_i h27 307 63) + (1 : Int32))) fun h29 => (some ((1 : Int32), h29)))) else none))))) else (xb (f_X11_campaignName N h10) fun v31 h32 => (if v31 = 0 then (some ((0 : Int32), h32)) else (if xin ((64 : Int32) + (xm_i h32 307 63)) 72 then (xl (xm_si h32 307 (Int32.toNatClampNeg ((64 : Int32) + (xm_i h32 307 63))) (((1 : Int32) <<< ((xm_i h10 302 23) &&& 31)) ||| ((1 : Int32) <<< ((xm_i h32 302 23) &&& 31)))) fun h36 => (xl (xm_si h36 307 63 ((xm_i h36 307 63) + (1 : Int32))) fun h38 => (some ((1 : Int32), h38)))) else none))))))))
theorem t_X11_apartStatement {N : Nat} {ρ : Nat} {δ : Nat} {h : xm_H} {w : Int32 × xm_H}  (hS : xS ρ δ h) (hf : f_X11_apartStatement N h = some w) : xm_Rn xX 7 162 [.ref 302] h (xji w.1) w.2 ∧ xS ρ δ w.2 := by
  refine xt_mk (φ := fun h => xS ρ δ h) (M := xM_X11_apartStatement) (ls := [some (.ref 302), none]) rfl (Nat.le_of_ble_eq_true rfl) rfl (fun Q hQ => ?_)
  unfold f_X11_apartStatement at hf
  refine xw_G (pc' := 1) (st' := [.ref 302]) rfl rfl trivial ?_
  refine xw_gr rfl (xkf (xs_k hS rfl rfl : xm_k h 302 = (11, 0))) (xs_r hS rfl) ?_
  refine xw_G (pc' := 6) (st' := [.int (63 : Int32), .ref 307]) rfl rfl trivial ?_
  refine xa_ld (t := 100) (τ := 0) (v := .int (xm_i h 307 63)) rfl rfl (xkf (xs_k hS rfl rfl : xm_k h 307 = (100, 72))) (xkn (xs_k hS rfl rfl : xm_k h 307 = (100, 72))) (by decide : xin (63 : Int32) 72) rfl ?_
  refine xw_G (pc' := 9) (st' := [.int (8 : Int32), .int (xm_i h 307 63)]) rfl rfl trivial ?_
  refine xj_ic_ne rfl hf (fun hc1 hf => ?_) (fun hc1 hf => ?_)
  · refine xw_G (pc' := 13) (st' := [.ref 302]) rfl rfl trivial ?_
    refine xw_G (pc' := 14) (st' := [.int (5 : Int32), .ref 302]) rfl rfl trivial ?_
    refine xb_e hf (fun v2 h3 e4 hf => ?_)
    refine xw_V (v := some (.int v2)) rfl rfl (xkf (xs_k hS rfl rfl : xm_k h 302 = (11, 0))) (Nat.le_of_ble_eq_true rfl) (Nat.le_of_ble_eq_true rfl) (xm_Rn_le (Nat.le_of_ble_eq_true rfl) (t_X11_fail  hS e4).1) ?_
    have hS := (t_X11_fail  hS e4).2
    show xm_W _ _ _ 17 _ [.int v2] _
    refine xg_e hf (fun hg5 hf => ?_)
    exact xr_i (inj := xji) rfl rfl (xnar_z hg5).1 rfl hf hQ hS
  · refine xw_G (pc' := 19) (st' := [.ref 302]) rfl rfl trivial ?_
    refine xb_e hf (fun v6 h7 e8 hf => ?_)
    refine xw_V (v := some (.int v6)) rfl rfl (xkf (xs_k hS rfl rfl : xm_k h 302 = (11, 0))) (Nat.le_of_ble_eq_true rfl) (Nat.le_of_ble_eq_true rfl) (xm_Rn_le (Nat.le_of_ble_eq_true rfl) (t_X11_advance  hS e8).1) ?_
    have hS := (t_X11_advance  hS e8).2
    show xm_W _ _ _ 22 _ [.int v6] _
    refine xw_G (pc' := 23) (st' := []) rfl rfl rfl ?_
    refine xw_G (pc' := 24) (st' := [.ref 302]) rfl rfl trivial ?_
    refine xb_e hf (fun v9 h10 e11 hf => ?_)
    refine xw_V (v := some (.int v9)) rfl rfl (xkf (xs_k hS rfl rfl : xm_k h7 302 = (11, 0))) (Nat.le_of_ble_eq_true rfl) (Nat.le_of_ble_eq_true rfl) (xm_Rn_le (Nat.le_of_ble_eq_true rfl) (t_X11_campaignName  hS e11).1) ?_
    have hS := (t_X11_campaignName  hS e11).2
    show xm_W _ _ _ 27 _ [.int v9] _
    refine xj_if_ne rfl hf (fun hc12 hf => ?_) (fun hc12 hf => ?_)
    · refine xw_G (pc' := 31) (st' := [.int (0 : Int32)]) rfl rfl trivial ?_
      exact xr_i (inj := xji) rfl rfl rfl rfl hf hQ hS
    · refine xw_G (pc' := 33) (st' := [.ref 302]) rfl rfl trivial ?_
      refine xw_G (pc' := 36) (st' := [.int (xm_i h10 302 23)]) rfl rfl (xkf (xs_k hS rfl rfl : xm_k h10 302 = (11, 0))) ?_
      refine xw_G (pc' := 37) (ls' := [some (.ref 302), some (.int (xm_i h10 302 23))]) (st' := []) rfl rfl (Nat.le_of_ble_eq_true rfl) ?_
      refine xw_G (pc' := 38) (st' := [.ref 302]) rfl rfl trivial ?_
      refine xw_G (pc' := 41) (st' := [.int (xm_i h10 302 12)]) rfl rfl (xkf (xs_k hS rfl rfl : xm_k h10 302 = (11, 0))) ?_
      refine xw_G (pc' := 42) (st' := [.int (2 : Int32), .int (xm_i h10 302 12)]) rfl rfl trivial ?_
      refine xj_ic_ne rfl hf (fun hc13 hf => ?_) (fun hc13 hf => ?_)
      · refine xw_G (pc' := 46) (st' := [.ref 302]) rfl rfl trivial ?_
        refine xw_gr rfl (xkf (xs_k hS rfl rfl : xm_k h10 302 = (11, 0))) (xs_r hS rfl) ?_
        refine xw_G (pc' := 50) (st' := [.ref 302, .ref 310]) rfl rfl trivial ?_
        refine xw_gr rfl (xkf (xs_k hS rfl rfl : xm_k h10 302 = (11, 0))) (xs_r hS rfl) ?_
        refine xw_G (pc' := 55) (st' := [.int (14 : Int32), .ref 307, .ref 310]) rfl rfl trivial ?_
        refine xa_ld (t := 100) (τ := 0) (v := .int (xm_i h10 307 14)) rfl rfl (xkf (xs_k hS rfl rfl : xm_k h10 307 = (100, 72))) (xkn (xs_k hS rfl rfl : xm_k h10 307 = (100, 72))) (by decide : xin (14 : Int32) 72) rfl ?_
        refine xw_G (pc' := 57) (st' := [.ref 302, .int (xm_i h10 307 14), .ref 310]) rfl rfl trivial ?_
        refine xw_G (pc' := 60) (st' := [.long (xm_l h10 302 16), .int (xm_i h10 307 14), .ref 310]) rfl rfl (xkf (xs_k hS rfl rfl : xm_k h10 302 = (11, 0))) ?_
        refine xb_e hf (fun v14 h15 e16 hf => ?_)
        refine xw_S (v := some (.int v14)) rfl (Nat.le_of_ble_eq_true rfl) (Nat.le_of_ble_eq_true rfl) (xm_Rn_le (Nat.le_of_ble_eq_true rfl) (t_X11_find  hS e16).1) ?_
        have hS := (t_X11_find  hS e16).2
        show xm_W _ _ _ 63 _ [.int v14] _
        refine xw_G (pc' := 64) (st' := [.int (xm_i h10 302 23), .int v14]) rfl rfl trivial ?_
        refine xj_ic_ne rfl hf (fun hc17 hf => ?_) (fun hc17 hf => ?_)
        · refine xw_G (pc' := 68) (st' := [.ref 302]) rfl rfl trivial ?_
          refine xw_G (pc' := 69) (st' := [.int (4 : Int32), .ref 302]) rfl rfl trivial ?_
          refine xb_e hf (fun v18 h19 e20 hf => ?_)
          refine xw_V (v := some (.int v18)) rfl rfl (xkf (xs_k hS rfl rfl : xm_k h15 302 = (11, 0))) (Nat.le_of_ble_eq_true rfl) (Nat.le_of_ble_eq_true rfl) (xm_Rn_le (Nat.le_of_ble_eq_true rfl) (t_X11_fail  hS e20).1) ?_
          have hS := (t_X11_fail  hS e20).2
          show xm_W _ _ _ 72 _ [.int v18] _
          refine xg_e hf (fun hg21 hf => ?_)
          exact xr_i (inj := xji) rfl rfl (xnar_z hg21).1 rfl hf hQ hS
        · refine xw_G (pc' := 74) (st' := [.ref 302]) rfl rfl trivial ?_
          refine xb_e hf (fun v22 h23 e24 hf => ?_)
          refine xw_V (v := some (.int v22)) rfl rfl (xkf (xs_k hS rfl rfl : xm_k h15 302 = (11, 0))) (Nat.le_of_ble_eq_true rfl) (Nat.le_of_ble_eq_true rfl) (xm_Rn_le (Nat.le_of_ble_eq_true rfl) (t_X11_campaignName  hS e24).1) ?_
          have hS := (t_X11_campaignName  hS e24).2
          show xm_W _ _ _ 77 _ [.int v22] _
          refine xj_if_ne rfl hf (fun hc25 hf => ?_) (fun hc25 hf => ?_)
          · refine xw_G (pc' := 81) (st' := [.int (0 : Int32)]) rfl rfl trivial ?_
            exact xr_i (inj := xji) rfl rfl rfl rfl hf hQ hS
          · refine xw_G (pc' := 83) (st' := [.ref 302]) rfl rfl trivial ?_
            refine xw_gr rfl (xkf (xs_k hS rfl rfl : xm_k h23 302 = (11, 0))) (xs_r hS rfl) ?_
            refine xw_G (pc' := 88) (st' := [.int (64 : Int32), .ref 307]) rfl rfl trivial ?_
            refine xw_G (pc' := 89) (st' := [.ref 302, .int (64 : Int32), .ref 307]) rfl rfl trivial ?_
            refine xw_gr rfl (xkf (xs_k hS rfl rfl : xm_k h23 302 = (11, 0))) (xs_r hS rfl) ?_
            refine xw_G (pc' := 94) (st' := [.int (63 : Int32), .ref 307, .int (64 : Int32), .ref 307]) rfl rfl trivial ?_
            refine xa_ld (t := 100) (τ := 0) (v := .int (xm_i h23 307 63)) rfl rfl (xkf (xs_k hS rfl rfl : xm_k h23 307 = (100, 72))) (xkn (xs_k hS rfl rfl : xm_k h23 307 = (100, 72))) (by decide : xin (63 : Int32) 72) rfl ?_
            refine xw_G (pc' := 96) (st' := [.int ((64 : Int32) + (xm_i h23 307 63)), .ref 307]) rfl rfl trivial ?_
            refine xw_G (pc' := 97) (st' := [.int (1 : Int32), .int ((64 : Int32) + (xm_i h23 307 63)), .ref 307]) rfl rfl trivial ?_
            refine xw_G (pc' := 98) (st' := [.int (xm_i h10 302 23), .int (1 : Int32), .int ((64 : Int32) + (xm_i h23 307 63)), .ref 307]) rfl rfl trivial ?_
            refine xw_G (pc' := 99) (st' := [.int ((1 : Int32) <<< ((xm_i h10 302 23) &&& 31)), .int ((64 : Int32) + (xm_i h23 307 63)), .ref 307]) rfl rfl trivial ?_
            refine xw_G (pc' := 100) (st' := [.int (1 : Int32), .int ((1 : Int32) <<< ((xm_i h10 302 23) &&& 31)), .int ((64 : Int32) + (xm_i h23 307 63)), .ref 307]) rfl rfl trivial ?_
            refine xw_G (pc' := 101) (st' := [.ref 302, .int (1 : Int32), .int ((1 : Int32) <<< ((xm_i h10 302 23) &&& 31)), .int ((64 : Int32) + (xm_i h23 307 63)), .ref 307]) rfl rfl trivial ?_
            refine xw_G (pc' := 104) (st' := [.int (xm_i h23 302 23), .int (1 : Int32), .int ((1 : Int32) <<< ((xm_i h10 302 23) &&& 31)), .int ((64 : Int32) + (xm_i h23 307 63)), .ref 307]) rfl rfl (xkf (xs_k hS rfl rfl : xm_k h23 302 = (11, 0))) ?_
            refine xw_G (pc' := 105) (st' := [.int ((1 : Int32) <<< ((xm_i h23 302 23) &&& 31)), .int ((1 : Int32) <<< ((xm_i h10 302 23) &&& 31)), .int ((64 : Int32) + (xm_i h23 307 63)), .ref 307]) rfl rfl trivial ?_
            refine xw_G (pc' := 106) (st' := [.int (((1 : Int32) <<< ((xm_i h10 302 23) &&& 31)) ||| ((1 : Int32) <<< ((xm_i h23 302 23) &&& 31))), .int ((64 : Int32) + (xm_i h23 307 63)), .ref 307]) rfl rfl trivial ?_
            refine xg_e hf (fun hg26 hf => ?_)
            refine xa_i rfl (xkf (xs_k hS rfl rfl : xm_k h23 307 = (100, 72))) (xkn (xs_k hS rfl rfl : xm_k h23 307 = (100, 72))) hg26 (Nat.le_of_ble_eq_true rfl) hf (fun h27 e28 hf => ?_)
            have hS := xS_si hS e28
            refine xw_G (pc' := 108) (st' := [.ref 302]) rfl rfl trivial ?_
            refine xw_gr rfl (xkf (xs_k hS rfl rfl : xm_k h27 302 = (11, 0))) (xs_r hS rfl) ?_
            refine xw_G (pc' := 113) (st' := [.int (63 : Int32), .ref 307]) rfl rfl trivial ?_
            refine xw_G (pc' := 114) (st' := [.int (63 : Int32), .ref 307, .int (63 : Int32), .ref 307]) rfl rfl ⟨rfl, rfl⟩ ?_
            refine xa_ld (t := 100) (τ := 0) (v := .int (xm_i h27 307 63)) rfl rfl (xkf (xs_k hS rfl rfl : xm_k h27 307 = (100, 72))) (xkn (xs_k hS rfl rfl : xm_k h27 307 = (100, 72))) (by decide : xin (63 : Int32) 72) rfl ?_
            refine xw_G (pc' := 116) (st' := [.int (1 : Int32), .int (xm_i h27 307 63), .int (63 : Int32), .ref 307]) rfl rfl trivial ?_
            refine xw_G (pc' := 117) (st' := [.int ((xm_i h27 307 63) + (1 : Int32)), .int (63 : Int32), .ref 307]) rfl rfl trivial ?_
            refine xa_i rfl (xkf (xs_k hS rfl rfl : xm_k h27 307 = (100, 72))) (xkn (xs_k hS rfl rfl : xm_k h27 307 = (100, 72))) (by decide : xin (63 : Int32) 72) (Nat.le_of_ble_eq_true rfl) hf (fun h29 e30 hf => ?_)
            have hS := xS_si hS e30
            refine xw_G (pc' := 119) (st' := [.int (1 : Int32)]) rfl rfl trivial ?_
            exact xr_i (inj := xji) rfl rfl rfl rfl hf hQ hS
      · refine xw_G (pc' := 74) (st' := [.ref 302]) rfl rfl trivial ?_
        refine xb_e hf (fun v31 h32 e33 hf => ?_)
        refine xw_V (v := some (.int v31)) rfl rfl (xkf (xs_k hS rfl rfl : xm_k h10 302 = (11, 0))) (Nat.le_of_ble_eq_true rfl) (Nat.le_of_ble_eq_true rfl) (xm_Rn_le (Nat.le_of_ble_eq_true rfl) (t_X11_campaignName  hS e33).1) ?_
        have hS := (t_X11_campaignName  hS e33).2
        show xm_W _ _ _ 77 _ [.int v31] _
        refine xj_if_ne rfl hf (fun hc34 hf => ?_) (fun hc34 hf => ?_)
        · refine xw_G (pc' := 81) (st' := [.int (0 : Int32)]) rfl rfl trivial ?_
          exact xr_i (inj := xji) rfl rfl rfl rfl hf hQ hS
        · refine xw_G (pc' := 83) (st' := [.ref 302]) rfl rfl trivial ?_
          refine xw_gr rfl (xkf (xs_k hS rfl rfl : xm_k h32 302 = (11, 0))) (xs_r hS rfl) ?_
          refine xw_G (pc' := 88) (st' := [.int (64 : Int32), .ref 307]) rfl rfl trivial ?_
          refine xw_G (pc' := 89) (st' := [.ref 302, .int (64 : Int32), .ref 307]) rfl rfl trivial ?_
          refine xw_gr rfl (xkf (xs_k hS rfl rfl : xm_k h32 302 = (11, 0))) (xs_r hS rfl) ?_
          refine xw_G (pc' := 94) (st' := [.int (63 : Int32), .ref 307, .int (64 : Int32), .ref 307]) rfl rfl trivial ?_
          refine xa_ld (t := 100) (τ := 0) (v := .int (xm_i h32 307 63)) rfl rfl (xkf (xs_k hS rfl rfl : xm_k h32 307 = (100, 72))) (xkn (xs_k hS rfl rfl : xm_k h32 307 = (100, 72))) (by decide : xin (63 : Int32) 72) rfl ?_
          refine xw_G (pc' := 96) (st' := [.int ((64 : Int32) + (xm_i h32 307 63)), .ref 307]) rfl rfl trivial ?_
          refine xw_G (pc' := 97) (st' := [.int (1 : Int32), .int ((64 : Int32) + (xm_i h32 307 63)), .ref 307]) rfl rfl trivial ?_
          refine xw_G (pc' := 98) (st' := [.int (xm_i h10 302 23), .int (1 : Int32), .int ((64 : Int32) + (xm_i h32 307 63)), .ref 307]) rfl rfl trivial ?_
          refine xw_G (pc' := 99) (st' := [.int ((1 : Int32) <<< ((xm_i h10 302 23) &&& 31)), .int ((64 : Int32) + (xm_i h32 307 63)), .ref 307]) rfl rfl trivial ?_
          refine xw_G (pc' := 100) (st' := [.int (1 : Int32), .int ((1 : Int32) <<< ((xm_i h10 302 23) &&& 31)), .int ((64 : Int32) + (xm_i h32 307 63)), .ref 307]) rfl rfl trivial ?_
          refine xw_G (pc' := 101) (st' := [.ref 302, .int (1 : Int32), .int ((1 : Int32) <<< ((xm_i h10 302 23) &&& 31)), .int ((64 : Int32) + (xm_i h32 307 63)), .ref 307]) rfl rfl trivial ?_
          refine xw_G (pc' := 104) (st' := [.int (xm_i h32 302 23), .int (1 : Int32), .int ((1 : Int32) <<< ((xm_i h10 302 23) &&& 31)), .int ((64 : Int32) + (xm_i h32 307 63)), .ref 307]) rfl rfl (xkf (xs_k hS rfl rfl : xm_k h32 302 = (11, 0))) ?_
          refine xw_G (pc' := 105) (st' := [.int ((1 : Int32) <<< ((xm_i h32 302 23) &&& 31)), .int ((1 : Int32) <<< ((xm_i h10 302 23) &&& 31)), .int ((64 : Int32) + (xm_i h32 307 63)), .ref 307]) rfl rfl trivial ?_
          refine xw_G (pc' := 106) (st' := [.int (((1 : Int32) <<< ((xm_i h10 302 23) &&& 31)) ||| ((1 : Int32) <<< ((xm_i h32 302 23) &&& 31))), .int ((64 : Int32) + (xm_i h32 307 63)), .ref 307]) rfl rfl trivial ?_
          refine xg_e hf (fun hg35 hf => ?_)
          refine xa_i rfl (xkf (xs_k hS rfl rfl : xm_k h32 307 = (100, 72))) (xkn (xs_k hS rfl rfl : xm_k h32 307 = (100, 72))) hg35 (Nat.le_of_ble_eq_true rfl) hf (fun h36 e37 hf => ?_)
          have hS := xS_si hS e37
          refine xw_G (pc' := 108) (st' := [.ref 302]) rfl rfl trivial ?_
          refine xw_gr rfl (xkf (xs_k hS rfl rfl : xm_k h36 302 = (11, 0))) (xs_r hS rfl) ?_
          refine xw_G (pc' := 113) (st' := [.int (63 : Int32), .ref 307]) rfl rfl trivial ?_
          refine xw_G (pc' := 114) (st' := [.int (63 : Int32), .ref 307, .int (63 : Int32), .ref 307]) rfl rfl ⟨rfl, rfl⟩ ?_
          refine xa_ld (t := 100) (τ := 0) (v := .int (xm_i h36 307 63)) rfl rfl (xkf (xs_k hS rfl rfl : xm_k h36 307 = (100, 72))) (xkn (xs_k hS rfl rfl : xm_k h36 307 = (100, 72))) (by decide : xin (63 : Int32) 72) rfl ?_
          refine xw_G (pc' := 116) (st' := [.int (1 : Int32), .int (xm_i h36 307 63), .int (63 : Int32), .ref 307]) rfl rfl trivial ?_
          refine xw_G (pc' := 117) (st' := [.int ((xm_i h36 307 63) + (1 : Int32)), .int (63 : Int32), .ref 307]) rfl rfl trivial ?_
          refine xa_i rfl (xkf (xs_k hS rfl rfl : xm_k h36 307 = (100, 72))) (xkn (xs_k hS rfl rfl : xm_k h36 307 = (100, 72))) (by decide : xin (63 : Int32) 72) (Nat.le_of_ble_eq_true rfl) hf (fun h38 e39 hf => ?_)
          have hS := xS_si hS e39
          refine xw_G (pc' := 119) (st' := [.int (1 : Int32)]) rfl rfl trivial ?_
          exact xr_i (inj := xji) rfl rfl rfl rfl hf hQ hS
def f_X11_statement (N : Nat) (h : xm_H) : Option (Int32 × xm_H) := (xb (f_X11_isWord N 67 h) fun v1 h2 => (if v1 = 0 then (xb (f_X11_isWord N 69 h2) fun v5 h6 => (if v5 = 0 then (xb (f_X11_isWord N 71 h6) fun v9 h10 => (if v9 = 0 then (xb (f_X11_isWord N 73 h10) fun v13 h14 => (if v13 = 0 then (xb (f_X11_isWord N 77 h14) fun v17 h18 => (if v17 = 0 then (xb (f_X11_isWord N 79 h18) fun v21 h22 => (if v21 = 0 then (xb (f_X11_isWord N 87 h22) fun v25 h26 => (if v25 = 0 then (xb (f_X11_fail (2 : Int32) h26) fun v29 h30 => (if v29 = 0 ∨ v29 = 1 then (some (v29, h30)) else none)) else (xb (f_X11_apartStatement N h26) fun v33 h34 => (if v33 = 0 ∨ v33 = 1 then (some (v33, h34)) else none)))) else (xb (f_X11_paceStatement N h22) fun v37 h38 => (if v37 = 0 ∨ v37 = 1 then (some (v37, h38)) else none)))) else (xb (f_X11_campaignStatement N h18) fun v41 h42 => (if v41 = 0 ∨ v41 = 1 then (some (v41, h42)) else none)))) else (xb (f_X11_tagStatement N h14) fun v45 h46 => (if v45 = 0 ∨ v45 = 1 then (some (v45, h46)) else none)))) else (xb (f_X11_slotsStatement N h10) fun v49 h50 => (if v49 = 0 ∨ v49 = 1 then (some (v49, h50)) else none)))) else (xb (f_X11_ticks N (1 : Int32) h6) fun v53 h54 => (if v53 = 0 ∨ v53 = 1 then (some (v53, h54)) else none)))) else (xb (f_X11_ticks N (0 : Int32) h2) fun v57 h58 => (if v57 = 0 ∨ v57 = 1 then (some (v57, h58)) else none))))
theorem t_X11_statement {N : Nat} {ρ : Nat} {δ : Nat} {h : xm_H} {w : Int32 × xm_H}  (hS : xS ρ δ h) (hf : f_X11_statement N h = some w) : xm_Rn xX 8 163 [.ref 302] h (xji w.1) w.2 ∧ xS ρ δ w.2 := by
  refine xt_mk (φ := fun h => xS ρ δ h) (M := xM_X11_statement) (ls := [some (.ref 302)]) rfl (Nat.le_of_ble_eq_true rfl) rfl (fun Q hQ => ?_)
  unfold f_X11_statement at hf
  refine xw_G (pc' := 1) (st' := [.ref 302]) rfl rfl trivial ?_
  refine xw_G (pc' := 3) (st' := [.ref 67, .ref 302]) rfl rfl trivial ?_
  refine xb_e hf (fun v1 h2 e3 hf => ?_)
  refine xw_V (v := some (.int v1)) rfl rfl (xkf (xs_k hS rfl rfl : xm_k h 302 = (11, 0))) (Nat.le_of_ble_eq_true rfl) (Nat.le_of_ble_eq_true rfl) (xm_Rn_le (Nat.le_of_ble_eq_true rfl) (t_X11_isWord  hS e3).1) ?_
  have hS := (t_X11_isWord  hS e3).2
  show xm_W _ _ _ 6 _ [.int v1] _
  refine xj_if_eq rfl hf (fun hc4 hf => ?_) (fun hc4 hf => ?_)
  · refine xw_G (pc' := 16) (st' := [.ref 302]) rfl rfl trivial ?_
    refine xw_G (pc' := 18) (st' := [.ref 69, .ref 302]) rfl rfl trivial ?_
    refine xb_e hf (fun v5 h6 e7 hf => ?_)
    refine xw_V (v := some (.int v5)) rfl rfl (xkf (xs_k hS rfl rfl : xm_k h2 302 = (11, 0))) (Nat.le_of_ble_eq_true rfl) (Nat.le_of_ble_eq_true rfl) (xm_Rn_le (Nat.le_of_ble_eq_true rfl) (t_X11_isWord  hS e7).1) ?_
    have hS := (t_X11_isWord  hS e7).2
    show xm_W _ _ _ 21 _ [.int v5] _
    refine xj_if_eq rfl hf (fun hc8 hf => ?_) (fun hc8 hf => ?_)
    · refine xw_G (pc' := 31) (st' := [.ref 302]) rfl rfl trivial ?_
      refine xw_G (pc' := 33) (st' := [.ref 71, .ref 302]) rfl rfl trivial ?_
      refine xb_e hf (fun v9 h10 e11 hf => ?_)
      refine xw_V (v := some (.int v9)) rfl rfl (xkf (xs_k hS rfl rfl : xm_k h6 302 = (11, 0))) (Nat.le_of_ble_eq_true rfl) (Nat.le_of_ble_eq_true rfl) (xm_Rn_le (Nat.le_of_ble_eq_true rfl) (t_X11_isWord  hS e11).1) ?_
      have hS := (t_X11_isWord  hS e11).2
      show xm_W _ _ _ 36 _ [.int v9] _
      refine xj_if_eq rfl hf (fun hc12 hf => ?_) (fun hc12 hf => ?_)
      · refine xw_G (pc' := 45) (st' := [.ref 302]) rfl rfl trivial ?_
        refine xw_G (pc' := 47) (st' := [.ref 73, .ref 302]) rfl rfl trivial ?_
        refine xb_e hf (fun v13 h14 e15 hf => ?_)
        refine xw_V (v := some (.int v13)) rfl rfl (xkf (xs_k hS rfl rfl : xm_k h10 302 = (11, 0))) (Nat.le_of_ble_eq_true rfl) (Nat.le_of_ble_eq_true rfl) (xm_Rn_le (Nat.le_of_ble_eq_true rfl) (t_X11_isWord  hS e15).1) ?_
        have hS := (t_X11_isWord  hS e15).2
        show xm_W _ _ _ 50 _ [.int v13] _
        refine xj_if_eq rfl hf (fun hc16 hf => ?_) (fun hc16 hf => ?_)
        · refine xw_G (pc' := 59) (st' := [.ref 302]) rfl rfl trivial ?_
          refine xw_G (pc' := 61) (st' := [.ref 77, .ref 302]) rfl rfl trivial ?_
          refine xb_e hf (fun v17 h18 e19 hf => ?_)
          refine xw_V (v := some (.int v17)) rfl rfl (xkf (xs_k hS rfl rfl : xm_k h14 302 = (11, 0))) (Nat.le_of_ble_eq_true rfl) (Nat.le_of_ble_eq_true rfl) (xm_Rn_le (Nat.le_of_ble_eq_true rfl) (t_X11_isWord  hS e19).1) ?_
          have hS := (t_X11_isWord  hS e19).2
          show xm_W _ _ _ 64 _ [.int v17] _
          refine xj_if_eq rfl hf (fun hc20 hf => ?_) (fun hc20 hf => ?_)
          · refine xw_G (pc' := 73) (st' := [.ref 302]) rfl rfl trivial ?_
            refine xw_G (pc' := 75) (st' := [.ref 79, .ref 302]) rfl rfl trivial ?_
            refine xb_e hf (fun v21 h22 e23 hf => ?_)
            refine xw_V (v := some (.int v21)) rfl rfl (xkf (xs_k hS rfl rfl : xm_k h18 302 = (11, 0))) (Nat.le_of_ble_eq_true rfl) (Nat.le_of_ble_eq_true rfl) (xm_Rn_le (Nat.le_of_ble_eq_true rfl) (t_X11_isWord  hS e23).1) ?_
            have hS := (t_X11_isWord  hS e23).2
            show xm_W _ _ _ 78 _ [.int v21] _
            refine xj_if_eq rfl hf (fun hc24 hf => ?_) (fun hc24 hf => ?_)
            · refine xw_G (pc' := 87) (st' := [.ref 302]) rfl rfl trivial ?_
              refine xw_G (pc' := 89) (st' := [.ref 87, .ref 302]) rfl rfl trivial ?_
              refine xb_e hf (fun v25 h26 e27 hf => ?_)
              refine xw_V (v := some (.int v25)) rfl rfl (xkf (xs_k hS rfl rfl : xm_k h22 302 = (11, 0))) (Nat.le_of_ble_eq_true rfl) (Nat.le_of_ble_eq_true rfl) (xm_Rn_le (Nat.le_of_ble_eq_true rfl) (t_X11_isWord  hS e27).1) ?_
              have hS := (t_X11_isWord  hS e27).2
              show xm_W _ _ _ 92 _ [.int v25] _
              refine xj_if_eq rfl hf (fun hc28 hf => ?_) (fun hc28 hf => ?_)
              · refine xw_G (pc' := 103) (st' := [.ref 302]) rfl rfl trivial ?_
                refine xw_G (pc' := 104) (st' := [.int (2 : Int32), .ref 302]) rfl rfl trivial ?_
                refine xb_e hf (fun v29 h30 e31 hf => ?_)
                refine xw_V (v := some (.int v29)) rfl rfl (xkf (xs_k hS rfl rfl : xm_k h26 302 = (11, 0))) (Nat.le_of_ble_eq_true rfl) (Nat.le_of_ble_eq_true rfl) (xm_Rn_le (Nat.le_of_ble_eq_true rfl) (t_X11_fail  hS e31).1) ?_
                have hS := (t_X11_fail  hS e31).2
                show xm_W _ _ _ 107 _ [.int v29] _
                refine xg_e hf (fun hg32 hf => ?_)
                exact xr_i (inj := xji) rfl rfl (xnar_z hg32).1 rfl hf hQ hS
              · refine xw_G (pc' := 96) (st' := [.ref 302]) rfl rfl trivial ?_
                refine xb_e hf (fun v33 h34 e35 hf => ?_)
                refine xw_V (v := some (.int v33)) rfl rfl (xkf (xs_k hS rfl rfl : xm_k h26 302 = (11, 0))) (Nat.le_of_ble_eq_true rfl) (Nat.le_of_ble_eq_true rfl) (xm_Rn_le (Nat.le_of_ble_eq_true rfl) (t_X11_apartStatement  hS e35).1) ?_
                have hS := (t_X11_apartStatement  hS e35).2
                show xm_W _ _ _ 99 _ [.int v33] _
                refine xw_G (pc' := 107) (st' := [.int v33]) rfl rfl trivial ?_
                refine xg_e hf (fun hg36 hf => ?_)
                exact xr_i (inj := xji) rfl rfl (xnar_z hg36).1 rfl hf hQ hS
            · refine xw_G (pc' := 82) (st' := [.ref 302]) rfl rfl trivial ?_
              refine xb_e hf (fun v37 h38 e39 hf => ?_)
              refine xw_V (v := some (.int v37)) rfl rfl (xkf (xs_k hS rfl rfl : xm_k h22 302 = (11, 0))) (Nat.le_of_ble_eq_true rfl) (Nat.le_of_ble_eq_true rfl) (xm_Rn_le (Nat.le_of_ble_eq_true rfl) (t_X11_paceStatement  hS e39).1) ?_
              have hS := (t_X11_paceStatement  hS e39).2
              show xm_W _ _ _ 85 _ [.int v37] _
              refine xg_e hf (fun hg40 hf => ?_)
              exact xr_i (inj := xji) rfl rfl (xnar_z hg40).1 rfl hf hQ hS
          · refine xw_G (pc' := 68) (st' := [.ref 302]) rfl rfl trivial ?_
            refine xb_e hf (fun v41 h42 e43 hf => ?_)
            refine xw_V (v := some (.int v41)) rfl rfl (xkf (xs_k hS rfl rfl : xm_k h18 302 = (11, 0))) (Nat.le_of_ble_eq_true rfl) (Nat.le_of_ble_eq_true rfl) (xm_Rn_le (Nat.le_of_ble_eq_true rfl) (t_X11_campaignStatement  hS e43).1) ?_
            have hS := (t_X11_campaignStatement  hS e43).2
            show xm_W _ _ _ 71 _ [.int v41] _
            refine xg_e hf (fun hg44 hf => ?_)
            exact xr_i (inj := xji) rfl rfl (xnar_z hg44).1 rfl hf hQ hS
        · refine xw_G (pc' := 54) (st' := [.ref 302]) rfl rfl trivial ?_
          refine xb_e hf (fun v45 h46 e47 hf => ?_)
          refine xw_V (v := some (.int v45)) rfl rfl (xkf (xs_k hS rfl rfl : xm_k h14 302 = (11, 0))) (Nat.le_of_ble_eq_true rfl) (Nat.le_of_ble_eq_true rfl) (xm_Rn_le (Nat.le_of_ble_eq_true rfl) (t_X11_tagStatement  hS e47).1) ?_
          have hS := (t_X11_tagStatement  hS e47).2
          show xm_W _ _ _ 57 _ [.int v45] _
          refine xg_e hf (fun hg48 hf => ?_)
          exact xr_i (inj := xji) rfl rfl (xnar_z hg48).1 rfl hf hQ hS
      · refine xw_G (pc' := 40) (st' := [.ref 302]) rfl rfl trivial ?_
        refine xb_e hf (fun v49 h50 e51 hf => ?_)
        refine xw_V (v := some (.int v49)) rfl rfl (xkf (xs_k hS rfl rfl : xm_k h10 302 = (11, 0))) (Nat.le_of_ble_eq_true rfl) (Nat.le_of_ble_eq_true rfl) (xm_Rn_le (Nat.le_of_ble_eq_true rfl) (t_X11_slotsStatement  hS e51).1) ?_
        have hS := (t_X11_slotsStatement  hS e51).2
        show xm_W _ _ _ 43 _ [.int v49] _
        refine xg_e hf (fun hg52 hf => ?_)
        exact xr_i (inj := xji) rfl rfl (xnar_z hg52).1 rfl hf hQ hS
    · refine xw_G (pc' := 25) (st' := [.ref 302]) rfl rfl trivial ?_
      refine xw_G (pc' := 26) (st' := [.int (1 : Int32), .ref 302]) rfl rfl trivial ?_
      refine xb_e hf (fun v53 h54 e55 hf => ?_)
      refine xw_V (v := some (.int v53)) rfl rfl (xkf (xs_k hS rfl rfl : xm_k h6 302 = (11, 0))) (Nat.le_of_ble_eq_true rfl) (Nat.le_of_ble_eq_true rfl) (xm_Rn_le (Nat.le_of_ble_eq_true rfl) (t_X11_ticks  hS e55).1) ?_
      have hS := (t_X11_ticks  hS e55).2
      show xm_W _ _ _ 29 _ [.int v53] _
      refine xg_e hf (fun hg56 hf => ?_)
      exact xr_i (inj := xji) rfl rfl (xnar_z hg56).1 rfl hf hQ hS
  · refine xw_G (pc' := 10) (st' := [.ref 302]) rfl rfl trivial ?_
    refine xw_G (pc' := 11) (st' := [.int (0 : Int32), .ref 302]) rfl rfl trivial ?_
    refine xb_e hf (fun v57 h58 e59 hf => ?_)
    refine xw_V (v := some (.int v57)) rfl rfl (xkf (xs_k hS rfl rfl : xm_k h2 302 = (11, 0))) (Nat.le_of_ble_eq_true rfl) (Nat.le_of_ble_eq_true rfl) (xm_Rn_le (Nat.le_of_ble_eq_true rfl) (t_X11_ticks  hS e59).1) ?_
    have hS := (t_X11_ticks  hS e59).2
    show xm_W _ _ _ 14 _ [.int v57] _
    refine xg_e hf (fun hg60 hf => ?_)
    exact xr_i (inj := xji) rfl rfl (xnar_z hg60).1 rfl hf hQ hS
def f_X11_closed (N : Nat) (h : xm_H) : Option (Int32 × xm_H) := (if (xm_i h 302 12) = (4 : Int32) then (xb (f_X11_advance N h) fun v2 h3 => (if v2 = 0 ∨ v2 = 1 then (some (v2, h3)) else none)) else (xb (f_X11_fail (2 : Int32) h) fun v6 h7 => (if v6 = 0 ∨ v6 = 1 then (some (v6, h7)) else none)))
theorem t_X11_closed {N : Nat} {ρ : Nat} {δ : Nat} {h : xm_H} {w : Int32 × xm_H}  (hS : xS ρ δ h) (hf : f_X11_closed N h = some w) : xm_Rn xX 3 150 [.ref 302] h (xji w.1) w.2 ∧ xS ρ δ w.2 := by
  refine xt_mk (φ := fun h => xS ρ δ h) (M := xM_X11_closed) (ls := [some (.ref 302)]) rfl (Nat.le_of_ble_eq_true rfl) rfl (fun Q hQ => ?_)
  unfold f_X11_closed at hf
  refine xw_G (pc' := 1) (st' := [.ref 302]) rfl rfl trivial ?_
  refine xw_G (pc' := 4) (st' := [.int (xm_i h 302 12)]) rfl rfl (xkf (xs_k hS rfl rfl : xm_k h 302 = (11, 0))) ?_
  refine xw_G (pc' := 5) (st' := [.int (4 : Int32), .int (xm_i h 302 12)]) rfl rfl trivial ?_
  refine xj_ic_eq rfl hf (fun hc1 hf => ?_) (fun hc1 hf => ?_)
  · refine xw_G (pc' := 15) (st' := [.ref 302]) rfl rfl trivial ?_
    refine xb_e hf (fun v2 h3 e4 hf => ?_)
    refine xw_V (v := some (.int v2)) rfl rfl (xkf (xs_k hS rfl rfl : xm_k h 302 = (11, 0))) (Nat.le_of_ble_eq_true rfl) (Nat.le_of_ble_eq_true rfl) (xm_Rn_le (Nat.le_of_ble_eq_true rfl) (t_X11_advance  hS e4).1) ?_
    have hS := (t_X11_advance  hS e4).2
    show xm_W _ _ _ 18 _ [.int v2] _
    refine xg_e hf (fun hg5 hf => ?_)
    exact xr_i (inj := xji) rfl rfl (xnar_z hg5).1 rfl hf hQ hS
  · refine xw_G (pc' := 9) (st' := [.ref 302]) rfl rfl trivial ?_
    refine xw_G (pc' := 10) (st' := [.int (2 : Int32), .ref 302]) rfl rfl trivial ?_
    refine xb_e hf (fun v6 h7 e8 hf => ?_)
    refine xw_V (v := some (.int v6)) rfl rfl (xkf (xs_k hS rfl rfl : xm_k h 302 = (11, 0))) (Nat.le_of_ble_eq_true rfl) (Nat.le_of_ble_eq_true rfl) (xm_Rn_le (Nat.le_of_ble_eq_true rfl) (t_X11_fail  hS e8).1) ?_
    have hS := (t_X11_fail  hS e8).2
    show xm_W _ _ _ 13 _ [.int v6] _
    refine xg_e hf (fun hg9 hf => ?_)
    exact xr_i (inj := xji) rfl rfl (xnar_z hg9).1 rfl hf hQ hS
def f_X11_set (x1 : Int32) (x2 : Int32) (x3 : Int32) (h : xm_H) : Option (Unit × xm_H) := (if xin (((3 : Int32) + ((6 : Int32) * x1)) + x2) 2217 then (xl (xm_si h 303 (Int32.toNatClampNeg (((3 : Int32) + ((6 : Int32) * x1)) + x2)) x3) fun h2 => (some ((), h2))) else none)
theorem t_X11_set {ρ : Nat} {δ : Nat} {x1 : Int32} {x2 : Int32} {x3 : Int32} {h : xm_H} {w : Unit × xm_H}  (hS : xS ρ δ h) (hf : f_X11_set x1 x2 x3 h = some w) : xm_Rn xX 1 172 [.ref 302, .int x1, .int x2, .int x3] h (xjv w.1) w.2 ∧ xS ρ δ w.2 := by
  refine xt_mk (φ := fun h => xS ρ δ h) (M := xM_X11_set) (ls := [some (.ref 302), some (.int x1), some (.int x2), some (.int x3)]) rfl (Nat.le_of_ble_eq_true rfl) rfl (fun Q hQ => ?_)
  unfold f_X11_set at hf
  refine xw_G (pc' := 1) (st' := [.ref 302]) rfl rfl trivial ?_
  refine xw_gr rfl (xkf (xs_k hS rfl rfl : xm_k h 302 = (11, 0))) (xs_r hS rfl) ?_
  refine xw_G (pc' := 5) (st' := [.int (3 : Int32), .ref 303]) rfl rfl trivial ?_
  refine xw_G (pc' := 7) (st' := [.int (6 : Int32), .int (3 : Int32), .ref 303]) rfl rfl trivial ?_
  refine xw_G (pc' := 8) (st' := [.int x1, .int (6 : Int32), .int (3 : Int32), .ref 303]) rfl rfl trivial ?_
  refine xw_G (pc' := 9) (st' := [.int ((6 : Int32) * x1), .int (3 : Int32), .ref 303]) rfl rfl trivial ?_
  refine xw_G (pc' := 10) (st' := [.int ((3 : Int32) + ((6 : Int32) * x1)), .ref 303]) rfl rfl trivial ?_
  refine xw_G (pc' := 11) (st' := [.int x2, .int ((3 : Int32) + ((6 : Int32) * x1)), .ref 303]) rfl rfl trivial ?_
  refine xw_G (pc' := 12) (st' := [.int (((3 : Int32) + ((6 : Int32) * x1)) + x2), .ref 303]) rfl rfl trivial ?_
  refine xw_G (pc' := 13) (st' := [.int x3, .int (((3 : Int32) + ((6 : Int32) * x1)) + x2), .ref 303]) rfl rfl trivial ?_
  refine xg_e hf (fun hg1 hf => ?_)
  refine xa_i rfl (xkf (xs_k hS rfl rfl : xm_k h 303 = (100, 2217))) (xkn (xs_k hS rfl rfl : xm_k h 303 = (100, 2217))) hg1 (Nat.le_of_ble_eq_true rfl) hf (fun h2 e3 hf => ?_)
  have hS := xS_si hS e3
  exact xr_v (inj := xjv) rfl rfl hf hQ hS
def f_X11_takeTerms_2B (N : Nat) (k26 : xm_H → Option (Unit × xm_H)) (rec : Int32 → xm_H → Option (Unit × xm_H)) (c1 : Int32) (h : xm_H) : Option (Unit × xm_H) := (if c1 < (72 : Int32) then (if xin c1 72 then (xl (xm_si h 308 (Int32.toNatClampNeg c1) (xm_i h 307 (Int32.toNatClampNeg c1))) fun h3 => (rec (c1 + (1 : Int32)) h3)) else none) else (k26  h))
def f_X11_takeTerms_2 (N : Nat) (k26 : xm_H → Option (Unit × xm_H)) : Nat → Int32 → xm_H → Option (Unit × xm_H)
  | 0 => fun _ _ => none
  | n + 1 => fun c1 h => f_X11_takeTerms_2B N k26 (f_X11_takeTerms_2 N k26 n) c1 h
def f_X11_takeTerms_28B (N : Nat) (k52 : xm_H → Option (Unit × xm_H)) (rec : Int32 → xm_H → Option (Unit × xm_H)) (c1 : Int32) (h : xm_H) : Option (Unit × xm_H) := (if c1 < (8 : Int32) then (if xin c1 8 then (xl (xm_sl h 311 (Int32.toNatClampNeg c1) (xm_l h 310 (Int32.toNatClampNeg c1))) fun h3 => (rec (c1 + (1 : Int32)) h3)) else none) else (k52  h))
def f_X11_takeTerms_28 (N : Nat) (k52 : xm_H → Option (Unit × xm_H)) : Nat → Int32 → xm_H → Option (Unit × xm_H)
  | 0 => fun _ _ => none
  | n + 1 => fun c1 h => f_X11_takeTerms_28B N k52 (f_X11_takeTerms_28 N k52 n) c1 h
def f_X11_takeTerms_54B (N : Nat) (k74 : xm_H → Option (Unit × xm_H)) (rec : Int32 → xm_H → Option (Unit × xm_H)) (c1 : Int32) (h : xm_H) : Option (Unit × xm_H) := (if c1 < (2217 : Int32) then (if xin c1 2217 then (xl (xm_si h 303 (Int32.toNatClampNeg c1) (0 : Int32)) fun h3 => (rec (c1 + (1 : Int32)) h3)) else none) else (k74  h))
def f_X11_takeTerms_54 (N : Nat) (k74 : xm_H → Option (Unit × xm_H)) : Nat → Int32 → xm_H → Option (Unit × xm_H)
  | 0 => fun _ _ => none
  | n + 1 => fun c1 h => f_X11_takeTerms_54B N k74 (f_X11_takeTerms_54 N k74 n) c1 h
def f_X11_takeTerms_76B (N : Nat) (k141 : xm_H → Option (Unit × xm_H)) (rec : Int32 → xm_H → Option (Unit × xm_H)) (c1 : Int32) (h : xm_H) : Option (Unit × xm_H) := (if c1 < (8 : Int32) then (if xin ((15 : Int32) + c1) 72 then (xb (f_X11_set c1 (0 : Int32) (xm_i h 308 (Int32.toNatClampNeg ((15 : Int32) + c1))) h) fun v3 h4 => (if xin ((23 : Int32) + c1) 72 then (xb (f_X11_set c1 (1 : Int32) (xm_i h4 308 (Int32.toNatClampNeg ((23 : Int32) + c1))) h4) fun v7 h8 => (xb (f_X11_set c1 (3 : Int32) (100 : Int32) h8) fun v10 h11 => (if xin ((55 : Int32) + c1) 72 then (xb (f_X11_set c1 (4 : Int32) (xm_i h11 308 (Int32.toNatClampNeg ((55 : Int32) + c1))) h11) fun v14 h15 => (rec (c1 + (1 : Int32)) h15)) else none))) else none)) else none) else (k141  h))
def f_X11_takeTerms_76 (N : Nat) (k141 : xm_H → Option (Unit × xm_H)) : Nat → Int32 → xm_H → Option (Unit × xm_H)
  | 0 => fun _ _ => none
  | n + 1 => fun c1 h => f_X11_takeTerms_76B N k141 (f_X11_takeTerms_76 N k141 n) c1 h
def f_X11_takeTerms_143B (N : Nat) (rec : Int32 → xm_H → Option (Unit × xm_H)) (c1 : Int32) (h : xm_H) : Option (Unit × xm_H) := (if c1 < (6 : Int32) then (if xin ((8 : Int32) + c1) 72 then (if xin ((51 : Int32) + c1) 2217 then (xl (xm_si h 303 (Int32.toNatClampNeg ((51 : Int32) + c1)) (xm_i h 308 (Int32.toNatClampNeg ((8 : Int32) + c1)))) fun h4 => (rec (c1 + (1 : Int32)) h4)) else none) else none) else (xl (xm_si h 302 3 (0 : Int32)) fun h6 => (some ((), h6))))
def f_X11_takeTerms_143 (N : Nat) : Nat → Int32 → xm_H → Option (Unit × xm_H)
  | 0 => fun _ _ => none
  | n + 1 => fun c1 h => f_X11_takeTerms_143B N (f_X11_takeTerms_143 N n) c1 h
def f_X11_takeTerms (N : Nat) (h : xm_H) : Option (Unit × xm_H) := (f_X11_takeTerms_2 N (fun  (h1 : xm_H) => (f_X11_takeTerms_28 N (fun  (h2 : xm_H) => (f_X11_takeTerms_54 N (fun  (h3 : xm_H) => (f_X11_takeTerms_76 N (fun  (h4 : xm_H) => (f_X11_takeTerms_143 N N (0 : Int32) h4)) N (0 : Int32) h3)) N (0 : Int32) h2)) N (0 : Int32) h1)) N (0 : Int32) h)
theorem tl_X11_takeTerms_2 {ρ : Nat} {δ : Nat} {N : Nat} {k26 : xm_H → Option (Unit × xm_H)} {Q : xm_O → xm_H → Prop} {w : Unit × xm_H}  (hQ : xS ρ δ w.2 → Q (xjv w.1) w.2) (hk26 : ∀  (h : xm_H), xS ρ δ h → k26  h = some w → xm_W (xm_Rn xX 1) xM_X11_takeTerms Q 26 [some (.ref 302), none] [] h) : ∀ (n : Nat) (c1 : Int32) (h : xm_H), xS ρ δ h → f_X11_takeTerms_2 N k26 n c1 h = some w → xm_W (xm_Rn xX 1) xM_X11_takeTerms Q 2 [some (.ref 302), some (.int c1)] [] h := by
  intro n
  induction n with
  | zero =>
    intro c1 h hS hf
    exact (xn_e hf).elim
  | succ n ih =>
    intro c1 h hS hf
    replace hf : f_X11_takeTerms_2B N k26 (f_X11_takeTerms_2 N k26 n) c1 h = some w := hf
    unfold f_X11_takeTerms_2B at hf
    refine xw_K (pc' := 3) (ls' := [some (.ref 302), some (.int c1)]) (st' := [.int c1]) rfl rfl trivial ?_
    refine xw_G (pc' := 5) (st' := [.int (72 : Int32), .int c1]) rfl rfl trivial ?_
    refine xj_ic_ge rfl hf (fun hc1 hf => ?_) (fun hc1 hf => ?_)
    · refine xw_G (pc' := 9) (st' := [.ref 302]) rfl rfl trivial ?_
      refine xw_gr rfl (xkf (xs_k hS rfl rfl : xm_k h 302 = (11, 0))) (xs_r hS rfl) ?_
      refine xw_G (pc' := 13) (st' := [.int c1, .ref 308]) rfl rfl trivial ?_
      refine xw_G (pc' := 14) (st' := [.ref 302, .int c1, .ref 308]) rfl rfl trivial ?_
      refine xw_gr rfl (xkf (xs_k hS rfl rfl : xm_k h 302 = (11, 0))) (xs_r hS rfl) ?_
      refine xw_G (pc' := 18) (st' := [.int c1, .ref 307, .int c1, .ref 308]) rfl rfl trivial ?_
      refine xg_e hf (fun hg2 hf => ?_)
      refine xa_ld (t := 100) (τ := 0) (v := .int (xm_i h 307 (Int32.toNatClampNeg c1))) rfl rfl (xkf (xs_k hS rfl rfl : xm_k h 307 = (100, 72))) (xkn (xs_k hS rfl rfl : xm_k h 307 = (100, 72))) hg2 rfl ?_
      refine xa_i rfl (xkf (xs_k hS rfl rfl : xm_k h 308 = (100, 72))) (xkn (xs_k hS rfl rfl : xm_k h 308 = (100, 72))) hg2 (Nat.le_of_ble_eq_true rfl) hf (fun h3 e4 hf => ?_)
      have hS := xS_si hS e4
      refine xw_G (pc' := 23) (ls' := [some (.ref 302), some (.int (c1 + (1 : Int32)))]) (st' := []) rfl rfl (Nat.le_of_ble_eq_true rfl) ?_
      refine xw_G (pc' := 2) (st' := []) rfl rfl trivial ?_
      refine xw_M rfl rfl ?_
      exact ih _ _ hS hf
    · refine xw_M rfl rfl ?_
      exact hk26  _ hS hf
theorem tl_X11_takeTerms_28 {ρ : Nat} {δ : Nat} {N : Nat} {k52 : xm_H → Option (Unit × xm_H)} {Q : xm_O → xm_H → Prop} {w : Unit × xm_H}  (hQ : xS ρ δ w.2 → Q (xjv w.1) w.2) (hk52 : ∀  (h : xm_H), xS ρ δ h → k52  h = some w → xm_W (xm_Rn xX 1) xM_X11_takeTerms Q 52 [some (.ref 302), none] [] h) : ∀ (n : Nat) (c1 : Int32) (h : xm_H), xS ρ δ h → f_X11_takeTerms_28 N k52 n c1 h = some w → xm_W (xm_Rn xX 1) xM_X11_takeTerms Q 28 [some (.ref 302), some (.int c1)] [] h := by
  intro n
  induction n with
  | zero =>
    intro c1 h hS hf
    exact (xn_e hf).elim
  | succ n ih =>
    intro c1 h hS hf
    replace hf : f_X11_takeTerms_28B N k52 (f_X11_takeTerms_28 N k52 n) c1 h = some w := hf
    unfold f_X11_takeTerms_28B at hf
    refine xw_K (pc' := 29) (ls' := [some (.ref 302), some (.int c1)]) (st' := [.int c1]) rfl rfl trivial ?_
    refine xw_G (pc' := 31) (st' := [.int (8 : Int32), .int c1]) rfl rfl trivial ?_
    refine xj_ic_ge rfl hf (fun hc1 hf => ?_) (fun hc1 hf => ?_)
    · refine xw_G (pc' := 35) (st' := [.ref 302]) rfl rfl trivial ?_
      refine xw_gr rfl (xkf (xs_k hS rfl rfl : xm_k h 302 = (11, 0))) (xs_r hS rfl) ?_
      refine xw_G (pc' := 39) (st' := [.int c1, .ref 311]) rfl rfl trivial ?_
      refine xw_G (pc' := 40) (st' := [.ref 302, .int c1, .ref 311]) rfl rfl trivial ?_
      refine xw_gr rfl (xkf (xs_k hS rfl rfl : xm_k h 302 = (11, 0))) (xs_r hS rfl) ?_
      refine xw_G (pc' := 44) (st' := [.int c1, .ref 310, .int c1, .ref 311]) rfl rfl trivial ?_
      refine xg_e hf (fun hg2 hf => ?_)
      refine xa_ld (t := 104) (τ := 4) (v := .long (xm_l h 310 (Int32.toNatClampNeg c1))) rfl rfl (xkf (xs_k hS rfl rfl : xm_k h 310 = (104, 8))) (xkn (xs_k hS rfl rfl : xm_k h 310 = (104, 8))) hg2 rfl ?_
      refine xa_l rfl (xkf (xs_k hS rfl rfl : xm_k h 311 = (104, 8))) (xkn (xs_k hS rfl rfl : xm_k h 311 = (104, 8))) hg2 (Nat.le_of_ble_eq_true rfl) hf (fun h3 e4 hf => ?_)
      have hS := xS_sl hS e4
      refine xw_G (pc' := 49) (ls' := [some (.ref 302), some (.int (c1 + (1 : Int32)))]) (st' := []) rfl rfl (Nat.le_of_ble_eq_true rfl) ?_
      refine xw_G (pc' := 28) (st' := []) rfl rfl trivial ?_
      refine xw_M rfl rfl ?_
      exact ih _ _ hS hf
    · refine xw_M rfl rfl ?_
      exact hk52  _ hS hf
theorem tl_X11_takeTerms_54 {ρ : Nat} {δ : Nat} {N : Nat} {k74 : xm_H → Option (Unit × xm_H)} {Q : xm_O → xm_H → Prop} {w : Unit × xm_H}  (hQ : xS ρ δ w.2 → Q (xjv w.1) w.2) (hk74 : ∀  (h : xm_H), xS ρ δ h → k74  h = some w → xm_W (xm_Rn xX 1) xM_X11_takeTerms Q 74 [some (.ref 302), none] [] h) : ∀ (n : Nat) (c1 : Int32) (h : xm_H), xS ρ δ h → f_X11_takeTerms_54 N k74 n c1 h = some w → xm_W (xm_Rn xX 1) xM_X11_takeTerms Q 54 [some (.ref 302), some (.int c1)] [] h := by
  intro n
  induction n with
  | zero =>
    intro c1 h hS hf
    exact (xn_e hf).elim
  | succ n ih =>
    intro c1 h hS hf
    replace hf : f_X11_takeTerms_54B N k74 (f_X11_takeTerms_54 N k74 n) c1 h = some w := hf
    unfold f_X11_takeTerms_54B at hf
    refine xw_K (pc' := 55) (ls' := [some (.ref 302), some (.int c1)]) (st' := [.int c1]) rfl rfl trivial ?_
    refine xw_G (pc' := 58) (st' := [.int (2217 : Int32), .int c1]) rfl rfl trivial ?_
    refine xj_ic_ge rfl hf (fun hc1 hf => ?_) (fun hc1 hf => ?_)
    · refine xw_G (pc' := 62) (st' := [.ref 302]) rfl rfl trivial ?_
      refine xw_gr rfl (xkf (xs_k hS rfl rfl : xm_k h 302 = (11, 0))) (xs_r hS rfl) ?_
      refine xw_G (pc' := 66) (st' := [.int c1, .ref 303]) rfl rfl trivial ?_
      refine xw_G (pc' := 67) (st' := [.int (0 : Int32), .int c1, .ref 303]) rfl rfl trivial ?_
      refine xg_e hf (fun hg2 hf => ?_)
      refine xa_i rfl (xkf (xs_k hS rfl rfl : xm_k h 303 = (100, 2217))) (xkn (xs_k hS rfl rfl : xm_k h 303 = (100, 2217))) hg2 (Nat.le_of_ble_eq_true rfl) hf (fun h3 e4 hf => ?_)
      have hS := xS_si hS e4
      refine xw_G (pc' := 71) (ls' := [some (.ref 302), some (.int (c1 + (1 : Int32)))]) (st' := []) rfl rfl (Nat.le_of_ble_eq_true rfl) ?_
      refine xw_G (pc' := 54) (st' := []) rfl rfl trivial ?_
      refine xw_M rfl rfl ?_
      exact ih _ _ hS hf
    · refine xw_M rfl rfl ?_
      exact hk74  _ hS hf
theorem tl_X11_takeTerms_76 {ρ : Nat} {δ : Nat} {N : Nat} {k141 : xm_H → Option (Unit × xm_H)} {Q : xm_O → xm_H → Prop} {w : Unit × xm_H}  (hQ : xS ρ δ w.2 → Q (xjv w.1) w.2) (hk141 : ∀  (h : xm_H), xS ρ δ h → k141  h = some w → xm_W (xm_Rn xX 1) xM_X11_takeTerms Q 141 [some (.ref 302), none] [] h) : ∀ (n : Nat) (c1 : Int32) (h : xm_H), xS ρ δ h → f_X11_takeTerms_76 N k141 n c1 h = some w → xm_W (xm_Rn xX 1) xM_X11_takeTerms Q 76 [some (.ref 302), some (.int c1)] [] h := by
  intro n
  induction n with
  | zero =>
    intro c1 h hS hf
    exact (xn_e hf).elim
  | succ n ih =>
    intro c1 h hS hf
    replace hf : f_X11_takeTerms_76B N k141 (f_X11_takeTerms_76 N k141 n) c1 h = some w := hf
    unfold f_X11_takeTerms_76B at hf
    refine xw_K (pc' := 77) (ls' := [some (.ref 302), some (.int c1)]) (st' := [.int c1]) rfl rfl trivial ?_
    refine xw_G (pc' := 79) (st' := [.int (8 : Int32), .int c1]) rfl rfl trivial ?_
    refine xj_ic_ge rfl hf (fun hc1 hf => ?_) (fun hc1 hf => ?_)
    · refine xw_G (pc' := 83) (st' := [.ref 302]) rfl rfl trivial ?_
      refine xw_G (pc' := 84) (st' := [.int c1, .ref 302]) rfl rfl trivial ?_
      refine xw_G (pc' := 85) (st' := [.int (0 : Int32), .int c1, .ref 302]) rfl rfl trivial ?_
      refine xw_G (pc' := 86) (st' := [.ref 302, .int (0 : Int32), .int c1, .ref 302]) rfl rfl trivial ?_
      refine xw_gr rfl (xkf (xs_k hS rfl rfl : xm_k h 302 = (11, 0))) (xs_r hS rfl) ?_
      refine xw_G (pc' := 91) (st' := [.int (15 : Int32), .ref 308, .int (0 : Int32), .int c1, .ref 302]) rfl rfl trivial ?_
      refine xw_G (pc' := 92) (st' := [.int c1, .int (15 : Int32), .ref 308, .int (0 : Int32), .int c1, .ref 302]) rfl rfl trivial ?_
      refine xw_G (pc' := 93) (st' := [.int ((15 : Int32) + c1), .ref 308, .int (0 : Int32), .int c1, .ref 302]) rfl rfl trivial ?_
      refine xg_e hf (fun hg2 hf => ?_)
      refine xa_ld (t := 100) (τ := 0) (v := .int (xm_i h 308 (Int32.toNatClampNeg ((15 : Int32) + c1)))) rfl rfl (xkf (xs_k hS rfl rfl : xm_k h 308 = (100, 72))) (xkn (xs_k hS rfl rfl : xm_k h 308 = (100, 72))) hg2 rfl ?_
      refine xb_e hf (fun v3 h4 e5 hf => ?_)
      refine xw_V (v := none) rfl rfl (xkf (xs_k hS rfl rfl : xm_k h 302 = (11, 0))) (Nat.le_of_ble_eq_true rfl) (Nat.le_of_ble_eq_true rfl) (xm_Rn_le (Nat.le_of_ble_eq_true rfl) (t_X11_set  hS e5).1) ?_
      have hS := (t_X11_set  hS e5).2
      show xm_W _ _ _ 97 _ [] _
      refine xw_G (pc' := 98) (st' := [.ref 302]) rfl rfl trivial ?_
      refine xw_G (pc' := 99) (st' := [.int c1, .ref 302]) rfl rfl trivial ?_
      refine xw_G (pc' := 100) (st' := [.int (1 : Int32), .int c1, .ref 302]) rfl rfl trivial ?_
      refine xw_G (pc' := 101) (st' := [.ref 302, .int (1 : Int32), .int c1, .ref 302]) rfl rfl trivial ?_
      refine xw_gr rfl (xkf (xs_k hS rfl rfl : xm_k h4 302 = (11, 0))) (xs_r hS rfl) ?_
      refine xw_G (pc' := 106) (st' := [.int (23 : Int32), .ref 308, .int (1 : Int32), .int c1, .ref 302]) rfl rfl trivial ?_
      refine xw_G (pc' := 107) (st' := [.int c1, .int (23 : Int32), .ref 308, .int (1 : Int32), .int c1, .ref 302]) rfl rfl trivial ?_
      refine xw_G (pc' := 108) (st' := [.int ((23 : Int32) + c1), .ref 308, .int (1 : Int32), .int c1, .ref 302]) rfl rfl trivial ?_
      refine xg_e hf (fun hg6 hf => ?_)
      refine xa_ld (t := 100) (τ := 0) (v := .int (xm_i h4 308 (Int32.toNatClampNeg ((23 : Int32) + c1)))) rfl rfl (xkf (xs_k hS rfl rfl : xm_k h4 308 = (100, 72))) (xkn (xs_k hS rfl rfl : xm_k h4 308 = (100, 72))) hg6 rfl ?_
      refine xb_e hf (fun v7 h8 e9 hf => ?_)
      refine xw_V (v := none) rfl rfl (xkf (xs_k hS rfl rfl : xm_k h4 302 = (11, 0))) (Nat.le_of_ble_eq_true rfl) (Nat.le_of_ble_eq_true rfl) (xm_Rn_le (Nat.le_of_ble_eq_true rfl) (t_X11_set  hS e9).1) ?_
      have hS := (t_X11_set  hS e9).2
      show xm_W _ _ _ 112 _ [] _
      refine xw_G (pc' := 113) (st' := [.ref 302]) rfl rfl trivial ?_
      refine xw_G (pc' := 114) (st' := [.int c1, .ref 302]) rfl rfl trivial ?_
      refine xw_G (pc' := 115) (st' := [.int (3 : Int32), .int c1, .ref 302]) rfl rfl trivial ?_
      refine xw_G (pc' := 117) (st' := [.int (100 : Int32), .int (3 : Int32), .int c1, .ref 302]) rfl rfl trivial ?_
      refine xb_e hf (fun v10 h11 e12 hf => ?_)
      refine xw_V (v := none) rfl rfl (xkf (xs_k hS rfl rfl : xm_k h8 302 = (11, 0))) (Nat.le_of_ble_eq_true rfl) (Nat.le_of_ble_eq_true rfl) (xm_Rn_le (Nat.le_of_ble_eq_true rfl) (t_X11_set  hS e12).1) ?_
      have hS := (t_X11_set  hS e12).2
      show xm_W _ _ _ 120 _ [] _
      refine xw_G (pc' := 121) (st' := [.ref 302]) rfl rfl trivial ?_
      refine xw_G (pc' := 122) (st' := [.int c1, .ref 302]) rfl rfl trivial ?_
      refine xw_G (pc' := 123) (st' := [.int (4 : Int32), .int c1, .ref 302]) rfl rfl trivial ?_
      refine xw_G (pc' := 124) (st' := [.ref 302, .int (4 : Int32), .int c1, .ref 302]) rfl rfl trivial ?_
      refine xw_gr rfl (xkf (xs_k hS rfl rfl : xm_k h11 302 = (11, 0))) (xs_r hS rfl) ?_
      refine xw_G (pc' := 129) (st' := [.int (55 : Int32), .ref 308, .int (4 : Int32), .int c1, .ref 302]) rfl rfl trivial ?_
      refine xw_G (pc' := 130) (st' := [.int c1, .int (55 : Int32), .ref 308, .int (4 : Int32), .int c1, .ref 302]) rfl rfl trivial ?_
      refine xw_G (pc' := 131) (st' := [.int ((55 : Int32) + c1), .ref 308, .int (4 : Int32), .int c1, .ref 302]) rfl rfl trivial ?_
      refine xg_e hf (fun hg13 hf => ?_)
      refine xa_ld (t := 100) (τ := 0) (v := .int (xm_i h11 308 (Int32.toNatClampNeg ((55 : Int32) + c1)))) rfl rfl (xkf (xs_k hS rfl rfl : xm_k h11 308 = (100, 72))) (xkn (xs_k hS rfl rfl : xm_k h11 308 = (100, 72))) hg13 rfl ?_
      refine xb_e hf (fun v14 h15 e16 hf => ?_)
      refine xw_V (v := none) rfl rfl (xkf (xs_k hS rfl rfl : xm_k h11 302 = (11, 0))) (Nat.le_of_ble_eq_true rfl) (Nat.le_of_ble_eq_true rfl) (xm_Rn_le (Nat.le_of_ble_eq_true rfl) (t_X11_set  hS e16).1) ?_
      have hS := (t_X11_set  hS e16).2
      show xm_W _ _ _ 135 _ [] _
      refine xw_G (pc' := 138) (ls' := [some (.ref 302), some (.int (c1 + (1 : Int32)))]) (st' := []) rfl rfl (Nat.le_of_ble_eq_true rfl) ?_
      refine xw_G (pc' := 76) (st' := []) rfl rfl trivial ?_
      refine xw_M rfl rfl ?_
      exact ih _ _ hS hf
    · refine xw_M rfl rfl ?_
      exact hk141  _ hS hf
theorem tl_X11_takeTerms_143 {ρ : Nat} {δ : Nat} {N : Nat} {Q : xm_O → xm_H → Prop} {w : Unit × xm_H}  (hQ : xS ρ δ w.2 → Q (xjv w.1) w.2)  : ∀ (n : Nat) (c1 : Int32) (h : xm_H), xS ρ δ h → f_X11_takeTerms_143 N n c1 h = some w → xm_W (xm_Rn xX 1) xM_X11_takeTerms Q 143 [some (.ref 302), some (.int c1)] [] h := by
  intro n
  induction n with
  | zero =>
    intro c1 h hS hf
    exact (xn_e hf).elim
  | succ n ih =>
    intro c1 h hS hf
    replace hf : f_X11_takeTerms_143B N (f_X11_takeTerms_143 N n) c1 h = some w := hf
    unfold f_X11_takeTerms_143B at hf
    refine xw_K (pc' := 144) (ls' := [some (.ref 302), some (.int c1)]) (st' := [.int c1]) rfl rfl trivial ?_
    refine xw_G (pc' := 146) (st' := [.int (6 : Int32), .int c1]) rfl rfl trivial ?_
    refine xj_ic_ge rfl hf (fun hc1 hf => ?_) (fun hc1 hf => ?_)
    · refine xw_G (pc' := 150) (st' := [.ref 302]) rfl rfl trivial ?_
      refine xw_gr rfl (xkf (xs_k hS rfl rfl : xm_k h 302 = (11, 0))) (xs_r hS rfl) ?_
      refine xw_G (pc' := 155) (st' := [.int (51 : Int32), .ref 303]) rfl rfl trivial ?_
      refine xw_G (pc' := 156) (st' := [.int c1, .int (51 : Int32), .ref 303]) rfl rfl trivial ?_
      refine xw_G (pc' := 157) (st' := [.int ((51 : Int32) + c1), .ref 303]) rfl rfl trivial ?_
      refine xw_G (pc' := 158) (st' := [.ref 302, .int ((51 : Int32) + c1), .ref 303]) rfl rfl trivial ?_
      refine xw_gr rfl (xkf (xs_k hS rfl rfl : xm_k h 302 = (11, 0))) (xs_r hS rfl) ?_
      refine xw_G (pc' := 163) (st' := [.int (8 : Int32), .ref 308, .int ((51 : Int32) + c1), .ref 303]) rfl rfl trivial ?_
      refine xw_G (pc' := 164) (st' := [.int c1, .int (8 : Int32), .ref 308, .int ((51 : Int32) + c1), .ref 303]) rfl rfl trivial ?_
      refine xw_G (pc' := 165) (st' := [.int ((8 : Int32) + c1), .ref 308, .int ((51 : Int32) + c1), .ref 303]) rfl rfl trivial ?_
      refine xg_e hf (fun hg2 hf => ?_)
      refine xa_ld (t := 100) (τ := 0) (v := .int (xm_i h 308 (Int32.toNatClampNeg ((8 : Int32) + c1)))) rfl rfl (xkf (xs_k hS rfl rfl : xm_k h 308 = (100, 72))) (xkn (xs_k hS rfl rfl : xm_k h 308 = (100, 72))) hg2 rfl ?_
      refine xg_e hf (fun hg3 hf => ?_)
      refine xa_i rfl (xkf (xs_k hS rfl rfl : xm_k h 303 = (100, 2217))) (xkn (xs_k hS rfl rfl : xm_k h 303 = (100, 2217))) hg3 (Nat.le_of_ble_eq_true rfl) hf (fun h4 e5 hf => ?_)
      have hS := xS_si hS e5
      refine xw_G (pc' := 170) (ls' := [some (.ref 302), some (.int (c1 + (1 : Int32)))]) (st' := []) rfl rfl (Nat.le_of_ble_eq_true rfl) ?_
      refine xw_G (pc' := 143) (st' := []) rfl rfl trivial ?_
      refine xw_M rfl rfl ?_
      exact ih _ _ hS hf
    · refine xw_G (pc' := 174) (st' := [.ref 302]) rfl rfl trivial ?_
      refine xw_G (pc' := 175) (st' := [.int (0 : Int32), .ref 302]) rfl rfl trivial ?_
      refine xp_i rfl (xkf (xs_k hS rfl rfl : xm_k h 302 = (11, 0))) (Nat.le_of_ble_eq_true rfl) hf (fun h6 e7 hf => ?_)
      have hS := xS_si hS e7
      exact xr_v (inj := xjv) rfl rfl hf hQ hS
theorem t_X11_takeTerms {N : Nat} {ρ : Nat} {δ : Nat} {h : xm_H} {w : Unit × xm_H}  (hS : xS ρ δ h) (hf : f_X11_takeTerms N h = some w) : xm_Rn xX 2 152 [.ref 302] h (xjv w.1) w.2 ∧ xS ρ δ w.2 := by
  refine xt_mk (φ := fun h => xS ρ δ h) (M := xM_X11_takeTerms) (ls := [some (.ref 302), none]) rfl (Nat.le_of_ble_eq_true rfl) rfl (fun Q hQ => ?_)
  unfold f_X11_takeTerms at hf
  refine xw_G (pc' := 1) (st' := [.int (0 : Int32)]) rfl rfl trivial ?_
  refine xw_G (pc' := 2) (ls' := [some (.ref 302), some (.int (0 : Int32))]) (st' := []) rfl rfl (Nat.le_of_ble_eq_true rfl) ?_
  refine xw_M rfl rfl ?_
  refine tl_X11_takeTerms_2  hQ (fun  h1 hS hf => ?_) _ _ _ hS hf
  refine xw_K (pc' := 27) (ls' := [some (.ref 302), none]) (st' := [.int (0 : Int32)]) rfl rfl trivial ?_
  refine xw_G (pc' := 28) (ls' := [some (.ref 302), some (.int (0 : Int32))]) (st' := []) rfl rfl (Nat.le_of_ble_eq_true rfl) ?_
  refine xw_M rfl rfl ?_
  refine tl_X11_takeTerms_28  hQ (fun  h2 hS hf => ?_) _ _ _ hS hf
  refine xw_K (pc' := 53) (ls' := [some (.ref 302), none]) (st' := [.int (0 : Int32)]) rfl rfl trivial ?_
  refine xw_G (pc' := 54) (ls' := [some (.ref 302), some (.int (0 : Int32))]) (st' := []) rfl rfl (Nat.le_of_ble_eq_true rfl) ?_
  refine xw_M rfl rfl ?_
  refine tl_X11_takeTerms_54  hQ (fun  h3 hS hf => ?_) _ _ _ hS hf
  refine xw_K (pc' := 75) (ls' := [some (.ref 302), none]) (st' := [.int (0 : Int32)]) rfl rfl trivial ?_
  refine xw_G (pc' := 76) (ls' := [some (.ref 302), some (.int (0 : Int32))]) (st' := []) rfl rfl (Nat.le_of_ble_eq_true rfl) ?_
  refine xw_M rfl rfl ?_
  refine tl_X11_takeTerms_76  hQ (fun  h4 hS hf => ?_) _ _ _ hS hf
  refine xw_K (pc' := 142) (ls' := [some (.ref 302), none]) (st' := [.int (0 : Int32)]) rfl rfl trivial ?_
  refine xw_G (pc' := 143) (ls' := [some (.ref 302), some (.int (0 : Int32))]) (st' := []) rfl rfl (Nat.le_of_ble_eq_true rfl) ?_
  refine xw_M rfl rfl ?_
  refine tl_X11_takeTerms_143  hQ  _ _ _ hS hf
def f_X11_load_68B (N : Nat) (k102 : Int32 → xm_H → Option (Int32 × xm_H)) (rec : Int32 → xm_H → Option (Int32 × xm_H)) (c2 : Int32) (h : xm_H) : Option (Int32 × xm_H) := (if c2 = 0 then (k102 c2 h) else (if (xm_i h 302 12) = 0 then (k102 c2 h) else (xb (f_X11_statement N h) fun v3 h4 => (if v3 = 0 then (rec (0 : Int32) h4) else (xb (f_X11_closed N h4) fun v7 h8 => (if v7 = 0 then (rec (0 : Int32) h8) else (rec (1 : Int32) h8)))))))
def f_X11_load_68 (N : Nat) (k102 : Int32 → xm_H → Option (Int32 × xm_H)) : Nat → Int32 → xm_H → Option (Int32 × xm_H)
  | 0 => fun _ _ => none
  | n + 1 => fun c2 h => f_X11_load_68B N k102 (f_X11_load_68 N k102 n) c2 h
def f_X11_load (N : Nat) (x1 : Int32) (h : xm_H) : Option (Int32 × xm_H) := (xb (f_X11_between (Int32.toInt64 x1) (0 : Int64) (Int32.toInt64 (xm_i h 302 6)) h) fun v1 h2 => (if v1 = 0 then (xl (xm_si h2 302 4 (1 : Int32)) fun h5 => (if 0 < (xm_i h5 302 4) then (some ((0 : Int32), h5)) else (xl (xm_si h5 302 9 x1) fun h8 => (xl (xm_si h8 302 6 (0 : Int32)) fun h10 => (xl (xm_si h10 302 11 (0 : Int32)) fun h12 => (xl (xm_si h12 302 14 (0 : Int32)) fun h14 => (xl (xm_si h14 302 15 (-1 : Int32)) fun h16 => (xb (f_X11_resetTerms N h16) fun v18 h19 => (xb (f_X11_advance N h19) fun v21 h22 => (f_X11_load_68 N (fun (e24 : Int32) (h25 : xm_H) => (xl (xm_si h25 302 7 (xm_i h25 302 14)) fun h26 => (xl (xm_si h26 302 8 (xm_i h26 302 15)) fun h28 => (if e24 = 0 then (some ((-3 : Int32), h28)) else (xb (f_X11_takeTerms N h28) fun v31 h32 => (some (xm_i h32 308 14, h32))))))) N (1 : Int32) h22)))))))))) else (xl (xm_si h2 302 4 (0 : Int32)) fun h34 => (if 0 < (xm_i h34 302 4) then (some ((0 : Int32), h34)) else (xl (xm_si h34 302 9 x1) fun h37 => (xl (xm_si h37 302 6 (0 : Int32)) fun h39 => (xl (xm_si h39 302 11 (0 : Int32)) fun h41 => (xl (xm_si h41 302 14 (0 : Int32)) fun h43 => (xl (xm_si h43 302 15 (-1 : Int32)) fun h45 => (xb (f_X11_resetTerms N h45) fun v47 h48 => (xb (f_X11_advance N h48) fun v50 h51 => (f_X11_load_68 N (fun (e53 : Int32) (h54 : xm_H) => (xl (xm_si h54 302 7 (xm_i h54 302 14)) fun h55 => (xl (xm_si h55 302 8 (xm_i h55 302 15)) fun h57 => (if e53 = 0 then (some ((-3 : Int32), h57)) else (xb (f_X11_takeTerms N h57) fun v60 h61 => (some (xm_i h61 308 14, h61))))))) N (1 : Int32) h51))))))))))))
theorem tl_X11_load_68 {ρ : Nat} {δ : Nat} {N : Nat} {k102 : Int32 → xm_H → Option (Int32 × xm_H)} {Q : xm_O → xm_H → Prop} {w : Int32 × xm_H}  (hQ : xS ρ δ w.2 → Q (xji w.1) w.2) (hk102 : ∀ (a0 : Int32) (h : xm_H), xS ρ δ h → k102 a0 h = some w → xm_W (xm_Rn xX 8) xM_X11_load Q 102 [some (.ref 302), none, some (.int a0)] [] h) : ∀ (n : Nat) (c2 : Int32) (h : xm_H), xS ρ δ h → f_X11_load_68 N k102 n c2 h = some w → xm_W (xm_Rn xX 8) xM_X11_load Q 68 [some (.ref 302), none, some (.int c2)] [] h := by
  intro n
  induction n with
  | zero =>
    intro c2 h hS hf
    exact (xn_e hf).elim
  | succ n ih =>
    intro c2 h hS hf
    replace hf : f_X11_load_68B N k102 (f_X11_load_68 N k102 n) c2 h = some w := hf
    unfold f_X11_load_68B at hf
    refine xw_K (pc' := 69) (ls' := [some (.ref 302), none, some (.int c2)]) (st' := [.int c2]) rfl rfl trivial ?_
    refine xj_if_eq rfl hf (fun hc1 hf => ?_) (fun hc1 hf => ?_)
    · refine xw_M rfl rfl ?_
      exact hk102 _ _ hS hf
    · refine xw_G (pc' := 73) (st' := [.ref 302]) rfl rfl trivial ?_
      refine xw_G (pc' := 76) (st' := [.int (xm_i h 302 12)]) rfl rfl (xkf (xs_k hS rfl rfl : xm_k h 302 = (11, 0))) ?_
      refine xj_if_eq rfl hf (fun hc2 hf => ?_) (fun hc2 hf => ?_)
      · refine xw_M rfl rfl ?_
        exact hk102 _ _ hS hf
      · refine xw_G (pc' := 80) (st' := [.ref 302]) rfl rfl trivial ?_
        refine xb_e hf (fun v3 h4 e5 hf => ?_)
        refine xw_V (v := some (.int v3)) rfl rfl (xkf (xs_k hS rfl rfl : xm_k h 302 = (11, 0))) (Nat.le_of_ble_eq_true rfl) (Nat.le_of_ble_eq_true rfl) (xm_Rn_le (Nat.le_of_ble_eq_true rfl) (t_X11_statement  hS e5).1) ?_
        have hS := (t_X11_statement  hS e5).2
        show xm_W _ _ _ 83 _ [.int v3] _
        refine xj_if_eq rfl hf (fun hc6 hf => ?_) (fun hc6 hf => ?_)
        · refine xw_G (pc' := 98) (st' := [.int (0 : Int32)]) rfl rfl trivial ?_
          refine xw_G (pc' := 99) (ls' := [some (.ref 302), none, some (.int (0 : Int32))]) (st' := []) rfl rfl (Nat.le_of_ble_eq_true rfl) ?_
          refine xw_G (pc' := 68) (st' := []) rfl rfl trivial ?_
          refine xw_M rfl rfl ?_
          exact ih _ _ hS hf
        · refine xw_G (pc' := 87) (st' := [.ref 302]) rfl rfl trivial ?_
          refine xb_e hf (fun v7 h8 e9 hf => ?_)
          refine xw_V (v := some (.int v7)) rfl rfl (xkf (xs_k hS rfl rfl : xm_k h4 302 = (11, 0))) (Nat.le_of_ble_eq_true rfl) (Nat.le_of_ble_eq_true rfl) (xm_Rn_le (Nat.le_of_ble_eq_true rfl) (t_X11_closed  hS e9).1) ?_
          have hS := (t_X11_closed  hS e9).2
          show xm_W _ _ _ 90 _ [.int v7] _
          refine xj_if_eq rfl hf (fun hc10 hf => ?_) (fun hc10 hf => ?_)
          · refine xw_G (pc' := 98) (st' := [.int (0 : Int32)]) rfl rfl trivial ?_
            refine xw_G (pc' := 99) (ls' := [some (.ref 302), none, some (.int (0 : Int32))]) (st' := []) rfl rfl (Nat.le_of_ble_eq_true rfl) ?_
            refine xw_G (pc' := 68) (st' := []) rfl rfl trivial ?_
            refine xw_M rfl rfl ?_
            exact ih _ _ hS hf
          · refine xw_G (pc' := 94) (st' := [.int (1 : Int32)]) rfl rfl trivial ?_
            refine xw_G (pc' := 98) (st' := [.int (1 : Int32)]) rfl rfl trivial ?_
            refine xw_G (pc' := 99) (ls' := [some (.ref 302), none, some (.int (1 : Int32))]) (st' := []) rfl rfl (Nat.le_of_ble_eq_true rfl) ?_
            refine xw_G (pc' := 68) (st' := []) rfl rfl trivial ?_
            refine xw_M rfl rfl ?_
            exact ih _ _ hS hf
theorem t_X11_load {N : Nat} {ρ : Nat} {δ : Nat} {x1 : Int32} {h : xm_H} {w : Int32 × xm_H}  (hS : xS ρ δ h) (hf : f_X11_load N x1 h = some w) : xm_Rn xX 9 164 [.ref 302, .int x1] h (xji w.1) w.2 ∧ xS ρ δ w.2 := by
  refine xt_mk (φ := fun h => xS ρ δ h) (M := xM_X11_load) (ls := [some (.ref 302), some (.int x1), none]) rfl (Nat.le_of_ble_eq_true rfl) rfl (fun Q hQ => ?_)
  unfold f_X11_load at hf
  refine xw_G (pc' := 1) (st' := [.ref 302]) rfl rfl trivial ?_
  refine xw_G (pc' := 2) (st' := [.int x1, .ref 302]) rfl rfl trivial ?_
  refine xw_G (pc' := 3) (st' := [.long (Int32.toInt64 x1), .ref 302]) rfl rfl trivial ?_
  refine xw_G (pc' := 4) (st' := [.long (0 : Int64), .long (Int32.toInt64 x1), .ref 302]) rfl rfl trivial ?_
  refine xw_G (pc' := 5) (st' := [.ref 302, .long (0 : Int64), .long (Int32.toInt64 x1), .ref 302]) rfl rfl trivial ?_
  refine xw_G (pc' := 8) (st' := [.int (xm_i h 302 6), .long (0 : Int64), .long (Int32.toInt64 x1), .ref 302]) rfl rfl (xkf (xs_k hS rfl rfl : xm_k h 302 = (11, 0))) ?_
  refine xw_G (pc' := 9) (st' := [.long (Int32.toInt64 (xm_i h 302 6)), .long (0 : Int64), .long (Int32.toInt64 x1), .ref 302]) rfl rfl trivial ?_
  refine xb_e hf (fun v1 h2 e3 hf => ?_)
  refine xw_S (v := some (.int v1)) rfl (Nat.le_of_ble_eq_true rfl) (Nat.le_of_ble_eq_true rfl) (xm_Rn_le (Nat.le_of_ble_eq_true rfl) (t_X11_between  hS e3).1) ?_
  have hS := (t_X11_between  hS e3).2
  show xm_W _ _ _ 12 _ [.int v1, .ref 302] _
  refine xj_if_eq rfl hf (fun hc4 hf => ?_) (fun hc4 hf => ?_)
  · refine xw_G (pc' := 20) (st' := [.int (1 : Int32), .ref 302]) rfl rfl trivial ?_
    refine xp_i rfl (xkf (xs_k hS rfl rfl : xm_k h2 302 = (11, 0))) (Nat.le_of_ble_eq_true rfl) hf (fun h5 e6 hf => ?_)
    have hS := xS_si hS e6
    refine xw_G (pc' := 24) (st' := [.ref 302]) rfl rfl trivial ?_
    refine xw_G (pc' := 27) (st' := [.int (xm_i h5 302 4)]) rfl rfl (xkf (xs_k hS rfl rfl : xm_k h5 302 = (11, 0))) ?_
    refine xj_if_le rfl hf (fun hc7 hf => ?_) (fun hc7 hf => ?_)
    · refine xw_G (pc' := 31) (st' := [.int (0 : Int32)]) rfl rfl trivial ?_
      exact xr_i (inj := xji) rfl rfl rfl rfl hf hQ hS
    · refine xw_G (pc' := 33) (st' := [.ref 302]) rfl rfl trivial ?_
      refine xw_G (pc' := 34) (st' := [.int x1, .ref 302]) rfl rfl trivial ?_
      refine xp_i rfl (xkf (xs_k hS rfl rfl : xm_k h5 302 = (11, 0))) (Nat.le_of_ble_eq_true rfl) hf (fun h8 e9 hf => ?_)
      have hS := xS_si hS e9
      refine xw_G (pc' := 38) (st' := [.ref 302]) rfl rfl trivial ?_
      refine xw_G (pc' := 39) (st' := [.int (0 : Int32), .ref 302]) rfl rfl trivial ?_
      refine xp_i rfl (xkf (xs_k hS rfl rfl : xm_k h8 302 = (11, 0))) (Nat.le_of_ble_eq_true rfl) hf (fun h10 e11 hf => ?_)
      have hS := xS_si hS e11
      refine xw_G (pc' := 43) (st' := [.ref 302]) rfl rfl trivial ?_
      refine xw_G (pc' := 44) (st' := [.int (0 : Int32), .ref 302]) rfl rfl trivial ?_
      refine xp_i rfl (xkf (xs_k hS rfl rfl : xm_k h10 302 = (11, 0))) (Nat.le_of_ble_eq_true rfl) hf (fun h12 e13 hf => ?_)
      have hS := xS_si hS e13
      refine xw_G (pc' := 48) (st' := [.ref 302]) rfl rfl trivial ?_
      refine xw_G (pc' := 49) (st' := [.int (0 : Int32), .ref 302]) rfl rfl trivial ?_
      refine xp_i rfl (xkf (xs_k hS rfl rfl : xm_k h12 302 = (11, 0))) (Nat.le_of_ble_eq_true rfl) hf (fun h14 e15 hf => ?_)
      have hS := xS_si hS e15
      refine xw_G (pc' := 53) (st' := [.ref 302]) rfl rfl trivial ?_
      refine xw_G (pc' := 54) (st' := [.int (-1 : Int32), .ref 302]) rfl rfl trivial ?_
      refine xp_i rfl (xkf (xs_k hS rfl rfl : xm_k h14 302 = (11, 0))) (Nat.le_of_ble_eq_true rfl) hf (fun h16 e17 hf => ?_)
      have hS := xS_si hS e17
      refine xw_G (pc' := 58) (st' := [.ref 302]) rfl rfl trivial ?_
      refine xb_e hf (fun v18 h19 e20 hf => ?_)
      refine xw_V (v := none) rfl rfl (xkf (xs_k hS rfl rfl : xm_k h16 302 = (11, 0))) (Nat.le_of_ble_eq_true rfl) (Nat.le_of_ble_eq_true rfl) (xm_Rn_le (Nat.le_of_ble_eq_true rfl) (t_X11_resetTerms  hS e20).1) ?_
      have hS := (t_X11_resetTerms  hS e20).2
      show xm_W _ _ _ 61 _ [] _
      refine xw_G (pc' := 62) (st' := [.ref 302]) rfl rfl trivial ?_
      refine xb_e hf (fun v21 h22 e23 hf => ?_)
      refine xw_V (v := some (.int v21)) rfl rfl (xkf (xs_k hS rfl rfl : xm_k h19 302 = (11, 0))) (Nat.le_of_ble_eq_true rfl) (Nat.le_of_ble_eq_true rfl) (xm_Rn_le (Nat.le_of_ble_eq_true rfl) (t_X11_advance  hS e23).1) ?_
      have hS := (t_X11_advance  hS e23).2
      show xm_W _ _ _ 65 _ [.int v21] _
      refine xw_G (pc' := 66) (st' := []) rfl rfl rfl ?_
      refine xw_G (pc' := 67) (st' := [.int (1 : Int32)]) rfl rfl trivial ?_
      refine xw_G (pc' := 68) (ls' := [some (.ref 302), some (.int x1), some (.int (1 : Int32))]) (st' := []) rfl rfl (Nat.le_of_ble_eq_true rfl) ?_
      refine xw_M rfl rfl ?_
      refine tl_X11_load_68  hQ (fun e24 h25 hS hf => ?_) _ _ _ hS hf
      refine xw_K (pc' := 103) (ls' := [some (.ref 302), none, some (.int e24)]) (st' := [.ref 302]) rfl rfl trivial ?_
      refine xw_G (pc' := 104) (st' := [.ref 302, .ref 302]) rfl rfl trivial ?_
      refine xw_G (pc' := 107) (st' := [.int (xm_i h25 302 14), .ref 302]) rfl rfl (xkf (xs_k hS rfl rfl : xm_k h25 302 = (11, 0))) ?_
      refine xp_i rfl (xkf (xs_k hS rfl rfl : xm_k h25 302 = (11, 0))) (Nat.le_of_ble_eq_true rfl) hf (fun h26 e27 hf => ?_)
      have hS := xS_si hS e27
      refine xw_G (pc' := 111) (st' := [.ref 302]) rfl rfl trivial ?_
      refine xw_G (pc' := 112) (st' := [.ref 302, .ref 302]) rfl rfl trivial ?_
      refine xw_G (pc' := 115) (st' := [.int (xm_i h26 302 15), .ref 302]) rfl rfl (xkf (xs_k hS rfl rfl : xm_k h26 302 = (11, 0))) ?_
      refine xp_i rfl (xkf (xs_k hS rfl rfl : xm_k h26 302 = (11, 0))) (Nat.le_of_ble_eq_true rfl) hf (fun h28 e29 hf => ?_)
      have hS := xS_si hS e29
      refine xw_G (pc' := 119) (st' := [.int e24]) rfl rfl trivial ?_
      refine xj_if_ne rfl hf (fun hc30 hf => ?_) (fun hc30 hf => ?_)
      · refine xw_G (pc' := 124) (st' := [.int (-3 : Int32)]) rfl rfl trivial ?_
        exact xr_i (inj := xji) rfl rfl rfl rfl hf hQ hS
      · refine xw_G (pc' := 126) (st' := [.ref 302]) rfl rfl trivial ?_
        refine xb_e hf (fun v31 h32 e33 hf => ?_)
        refine xw_V (v := none) rfl rfl (xkf (xs_k hS rfl rfl : xm_k h28 302 = (11, 0))) (Nat.le_of_ble_eq_true rfl) (Nat.le_of_ble_eq_true rfl) (xm_Rn_le (Nat.le_of_ble_eq_true rfl) (t_X11_takeTerms  hS e33).1) ?_
        have hS := (t_X11_takeTerms  hS e33).2
        show xm_W _ _ _ 129 _ [] _
        refine xw_G (pc' := 130) (st' := [.ref 302]) rfl rfl trivial ?_
        refine xw_gr rfl (xkf (xs_k hS rfl rfl : xm_k h32 302 = (11, 0))) (xs_r hS rfl) ?_
        refine xw_G (pc' := 135) (st' := [.int (14 : Int32), .ref 308]) rfl rfl trivial ?_
        refine xa_ld (t := 100) (τ := 0) (v := .int (xm_i h32 308 14)) rfl rfl (xkf (xs_k hS rfl rfl : xm_k h32 308 = (100, 72))) (xkn (xs_k hS rfl rfl : xm_k h32 308 = (100, 72))) (by decide : xin (14 : Int32) 72) rfl ?_
        exact xr_i (inj := xji) rfl rfl rfl rfl hf hQ hS
  · refine xw_G (pc' := 16) (st' := [.int (0 : Int32), .ref 302]) rfl rfl trivial ?_
    refine xw_G (pc' := 20) (st' := [.int (0 : Int32), .ref 302]) rfl rfl trivial ?_
    refine xp_i rfl (xkf (xs_k hS rfl rfl : xm_k h2 302 = (11, 0))) (Nat.le_of_ble_eq_true rfl) hf (fun h34 e35 hf => ?_)
    have hS := xS_si hS e35
    refine xw_G (pc' := 24) (st' := [.ref 302]) rfl rfl trivial ?_
    refine xw_G (pc' := 27) (st' := [.int (xm_i h34 302 4)]) rfl rfl (xkf (xs_k hS rfl rfl : xm_k h34 302 = (11, 0))) ?_
    refine xj_if_le rfl hf (fun hc36 hf => ?_) (fun hc36 hf => ?_)
    · refine xw_G (pc' := 31) (st' := [.int (0 : Int32)]) rfl rfl trivial ?_
      exact xr_i (inj := xji) rfl rfl rfl rfl hf hQ hS
    · refine xw_G (pc' := 33) (st' := [.ref 302]) rfl rfl trivial ?_
      refine xw_G (pc' := 34) (st' := [.int x1, .ref 302]) rfl rfl trivial ?_
      refine xp_i rfl (xkf (xs_k hS rfl rfl : xm_k h34 302 = (11, 0))) (Nat.le_of_ble_eq_true rfl) hf (fun h37 e38 hf => ?_)
      have hS := xS_si hS e38
      refine xw_G (pc' := 38) (st' := [.ref 302]) rfl rfl trivial ?_
      refine xw_G (pc' := 39) (st' := [.int (0 : Int32), .ref 302]) rfl rfl trivial ?_
      refine xp_i rfl (xkf (xs_k hS rfl rfl : xm_k h37 302 = (11, 0))) (Nat.le_of_ble_eq_true rfl) hf (fun h39 e40 hf => ?_)
      have hS := xS_si hS e40
      refine xw_G (pc' := 43) (st' := [.ref 302]) rfl rfl trivial ?_
      refine xw_G (pc' := 44) (st' := [.int (0 : Int32), .ref 302]) rfl rfl trivial ?_
      refine xp_i rfl (xkf (xs_k hS rfl rfl : xm_k h39 302 = (11, 0))) (Nat.le_of_ble_eq_true rfl) hf (fun h41 e42 hf => ?_)
      have hS := xS_si hS e42
      refine xw_G (pc' := 48) (st' := [.ref 302]) rfl rfl trivial ?_
      refine xw_G (pc' := 49) (st' := [.int (0 : Int32), .ref 302]) rfl rfl trivial ?_
      refine xp_i rfl (xkf (xs_k hS rfl rfl : xm_k h41 302 = (11, 0))) (Nat.le_of_ble_eq_true rfl) hf (fun h43 e44 hf => ?_)
      have hS := xS_si hS e44
      refine xw_G (pc' := 53) (st' := [.ref 302]) rfl rfl trivial ?_
      refine xw_G (pc' := 54) (st' := [.int (-1 : Int32), .ref 302]) rfl rfl trivial ?_
      refine xp_i rfl (xkf (xs_k hS rfl rfl : xm_k h43 302 = (11, 0))) (Nat.le_of_ble_eq_true rfl) hf (fun h45 e46 hf => ?_)
      have hS := xS_si hS e46
      refine xw_G (pc' := 58) (st' := [.ref 302]) rfl rfl trivial ?_
      refine xb_e hf (fun v47 h48 e49 hf => ?_)
      refine xw_V (v := none) rfl rfl (xkf (xs_k hS rfl rfl : xm_k h45 302 = (11, 0))) (Nat.le_of_ble_eq_true rfl) (Nat.le_of_ble_eq_true rfl) (xm_Rn_le (Nat.le_of_ble_eq_true rfl) (t_X11_resetTerms  hS e49).1) ?_
      have hS := (t_X11_resetTerms  hS e49).2
      show xm_W _ _ _ 61 _ [] _
      refine xw_G (pc' := 62) (st' := [.ref 302]) rfl rfl trivial ?_
      refine xb_e hf (fun v50 h51 e52 hf => ?_)
      refine xw_V (v := some (.int v50)) rfl rfl (xkf (xs_k hS rfl rfl : xm_k h48 302 = (11, 0))) (Nat.le_of_ble_eq_true rfl) (Nat.le_of_ble_eq_true rfl) (xm_Rn_le (Nat.le_of_ble_eq_true rfl) (t_X11_advance  hS e52).1) ?_
      have hS := (t_X11_advance  hS e52).2
      show xm_W _ _ _ 65 _ [.int v50] _
      refine xw_G (pc' := 66) (st' := []) rfl rfl rfl ?_
      refine xw_G (pc' := 67) (st' := [.int (1 : Int32)]) rfl rfl trivial ?_
      refine xw_G (pc' := 68) (ls' := [some (.ref 302), some (.int x1), some (.int (1 : Int32))]) (st' := []) rfl rfl (Nat.le_of_ble_eq_true rfl) ?_
      refine xw_M rfl rfl ?_
      refine tl_X11_load_68  hQ (fun e53 h54 hS hf => ?_) _ _ _ hS hf
      refine xw_K (pc' := 103) (ls' := [some (.ref 302), none, some (.int e53)]) (st' := [.ref 302]) rfl rfl trivial ?_
      refine xw_G (pc' := 104) (st' := [.ref 302, .ref 302]) rfl rfl trivial ?_
      refine xw_G (pc' := 107) (st' := [.int (xm_i h54 302 14), .ref 302]) rfl rfl (xkf (xs_k hS rfl rfl : xm_k h54 302 = (11, 0))) ?_
      refine xp_i rfl (xkf (xs_k hS rfl rfl : xm_k h54 302 = (11, 0))) (Nat.le_of_ble_eq_true rfl) hf (fun h55 e56 hf => ?_)
      have hS := xS_si hS e56
      refine xw_G (pc' := 111) (st' := [.ref 302]) rfl rfl trivial ?_
      refine xw_G (pc' := 112) (st' := [.ref 302, .ref 302]) rfl rfl trivial ?_
      refine xw_G (pc' := 115) (st' := [.int (xm_i h55 302 15), .ref 302]) rfl rfl (xkf (xs_k hS rfl rfl : xm_k h55 302 = (11, 0))) ?_
      refine xp_i rfl (xkf (xs_k hS rfl rfl : xm_k h55 302 = (11, 0))) (Nat.le_of_ble_eq_true rfl) hf (fun h57 e58 hf => ?_)
      have hS := xS_si hS e58
      refine xw_G (pc' := 119) (st' := [.int e53]) rfl rfl trivial ?_
      refine xj_if_ne rfl hf (fun hc59 hf => ?_) (fun hc59 hf => ?_)
      · refine xw_G (pc' := 124) (st' := [.int (-3 : Int32)]) rfl rfl trivial ?_
        exact xr_i (inj := xji) rfl rfl rfl rfl hf hQ hS
      · refine xw_G (pc' := 126) (st' := [.ref 302]) rfl rfl trivial ?_
        refine xb_e hf (fun v60 h61 e62 hf => ?_)
        refine xw_V (v := none) rfl rfl (xkf (xs_k hS rfl rfl : xm_k h57 302 = (11, 0))) (Nat.le_of_ble_eq_true rfl) (Nat.le_of_ble_eq_true rfl) (xm_Rn_le (Nat.le_of_ble_eq_true rfl) (t_X11_takeTerms  hS e62).1) ?_
        have hS := (t_X11_takeTerms  hS e62).2
        show xm_W _ _ _ 129 _ [] _
        refine xw_G (pc' := 130) (st' := [.ref 302]) rfl rfl trivial ?_
        refine xw_gr rfl (xkf (xs_k hS rfl rfl : xm_k h61 302 = (11, 0))) (xs_r hS rfl) ?_
        refine xw_G (pc' := 135) (st' := [.int (14 : Int32), .ref 308]) rfl rfl trivial ?_
        refine xa_ld (t := 100) (τ := 0) (v := .int (xm_i h61 308 14)) rfl rfl (xkf (xs_k hS rfl rfl : xm_k h61 308 = (100, 72))) (xkn (xs_k hS rfl rfl : xm_k h61 308 = (100, 72))) (by decide : xin (14 : Int32) 72) rfl ?_
        exact xr_i (inj := xji) rfl rfl rfl rfl hf hQ hS
def f_X11_thrown  (h : xm_H) : Option (Int32 × xm_H) := (some (xm_i h 302 4, h))
theorem t_X11_thrown {ρ : Nat} {δ : Nat} {h : xm_H} {w : Int32 × xm_H}  (hS : xS ρ δ h) (hf : f_X11_thrown  h = some w) : xm_Rn xX 1 132 [.ref 302] h (xji w.1) w.2 ∧ xS ρ δ w.2 := by
  refine xt_mk (φ := fun h => xS ρ δ h) (M := xM_X11_thrown) (ls := [some (.ref 302)]) rfl (Nat.le_of_ble_eq_true rfl) rfl (fun Q hQ => ?_)
  unfold f_X11_thrown at hf
  refine xw_G (pc' := 1) (st' := [.ref 302]) rfl rfl trivial ?_
  refine xw_G (pc' := 4) (st' := [.int (xm_i h 302 4)]) rfl rfl (xkf (xs_k hS rfl rfl : xm_k h 302 = (11, 0))) ?_
  exact xr_i (inj := xji) rfl rfl rfl rfl hf hQ hS
def f_X10_errorKind  (h : xm_H) : Option (Int32 × xm_H) := (some (xm_i h 161 4, h))
theorem t_X10_errorKind {ρ : Nat} {δ : Nat} {h : xm_H} {w : Int32 × xm_H}  (hS : xS ρ δ h) (hf : f_X10_errorKind  h = some w) : xm_Rn xX 1 75 [.ref 160] h (xji w.1) w.2 ∧ xS ρ δ w.2 := by
  refine xt_mk (φ := fun h => xS ρ δ h) (M := xM_X10_errorKind) (ls := [some (.ref 160)]) rfl (Nat.le_of_ble_eq_true rfl) rfl (fun Q hQ => ?_)
  unfold f_X10_errorKind at hf
  refine xw_G (pc' := 1) (st' := [.ref 160]) rfl rfl trivial ?_
  refine xw_gr rfl (xkf (xs_k hS rfl rfl : xm_k h 160 = (0, 0))) (xs_r hS rfl) ?_
  refine xw_G (pc' := 7) (st' := [.int (xm_i h 161 4)]) rfl rfl (xkf (xs_k hS rfl rfl : xm_k h 161 = (6, 0))) ?_
  exact xr_i (inj := xji) rfl rfl rfl rfl hf hQ hS
def f_X11_errorKind  (h : xm_H) : Option (Int32 × xm_H) := (xl (xm_si h 302 4 (0 : Int32)) fun h1 => (some (xm_i h1 302 7, h1)))
theorem t_X11_errorKind {ρ : Nat} {δ : Nat} {h : xm_H} {w : Int32 × xm_H}  (hS : xS ρ δ h) (hf : f_X11_errorKind  h = some w) : xm_Rn xX 1 165 [.ref 302] h (xji w.1) w.2 ∧ xS ρ δ w.2 := by
  refine xt_mk (φ := fun h => xS ρ δ h) (M := xM_X11_errorKind) (ls := [some (.ref 302)]) rfl (Nat.le_of_ble_eq_true rfl) rfl (fun Q hQ => ?_)
  unfold f_X11_errorKind at hf
  refine xw_G (pc' := 1) (st' := [.ref 302]) rfl rfl trivial ?_
  refine xw_G (pc' := 2) (st' := [.int (0 : Int32), .ref 302]) rfl rfl trivial ?_
  refine xp_i rfl (xkf (xs_k hS rfl rfl : xm_k h 302 = (11, 0))) (Nat.le_of_ble_eq_true rfl) hf (fun h1 e2 hf => ?_)
  have hS := xS_si hS e2
  refine xw_G (pc' := 6) (st' := [.ref 302]) rfl rfl trivial ?_
  refine xw_G (pc' := 9) (st' := [.int (xm_i h1 302 7)]) rfl rfl (xkf (xs_k hS rfl rfl : xm_k h1 302 = (11, 0))) ?_
  exact xr_i (inj := xji) rfl rfl rfl rfl hf hQ hS
def f_X10_errorPosition  (h : xm_H) : Option (Int32 × xm_H) := (some (xm_i h 161 5, h))
theorem t_X10_errorPosition {ρ : Nat} {δ : Nat} {h : xm_H} {w : Int32 × xm_H}  (hS : xS ρ δ h) (hf : f_X10_errorPosition  h = some w) : xm_Rn xX 1 76 [.ref 160] h (xji w.1) w.2 ∧ xS ρ δ w.2 := by
  refine xt_mk (φ := fun h => xS ρ δ h) (M := xM_X10_errorPosition) (ls := [some (.ref 160)]) rfl (Nat.le_of_ble_eq_true rfl) rfl (fun Q hQ => ?_)
  unfold f_X10_errorPosition at hf
  refine xw_G (pc' := 1) (st' := [.ref 160]) rfl rfl trivial ?_
  refine xw_gr rfl (xkf (xs_k hS rfl rfl : xm_k h 160 = (0, 0))) (xs_r hS rfl) ?_
  refine xw_G (pc' := 7) (st' := [.int (xm_i h 161 5)]) rfl rfl (xkf (xs_k hS rfl rfl : xm_k h 161 = (6, 0))) ?_
  exact xr_i (inj := xji) rfl rfl rfl rfl hf hQ hS
def f_X11_errorPosition  (h : xm_H) : Option (Int32 × xm_H) := (xl (xm_si h 302 4 (0 : Int32)) fun h1 => (some (xm_i h1 302 8, h1)))
theorem t_X11_errorPosition {ρ : Nat} {δ : Nat} {h : xm_H} {w : Int32 × xm_H}  (hS : xS ρ δ h) (hf : f_X11_errorPosition  h = some w) : xm_Rn xX 1 166 [.ref 302] h (xji w.1) w.2 ∧ xS ρ δ w.2 := by
  refine xt_mk (φ := fun h => xS ρ δ h) (M := xM_X11_errorPosition) (ls := [some (.ref 302)]) rfl (Nat.le_of_ble_eq_true rfl) rfl (fun Q hQ => ?_)
  unfold f_X11_errorPosition at hf
  refine xw_G (pc' := 1) (st' := [.ref 302]) rfl rfl trivial ?_
  refine xw_G (pc' := 2) (st' := [.int (0 : Int32), .ref 302]) rfl rfl trivial ?_
  refine xp_i rfl (xkf (xs_k hS rfl rfl : xm_k h 302 = (11, 0))) (Nat.le_of_ble_eq_true rfl) hf (fun h1 e2 hf => ?_)
  have hS := xS_si hS e2
  refine xw_G (pc' := 6) (st' := [.ref 302]) rfl rfl trivial ?_
  refine xw_G (pc' := 9) (st' := [.int (xm_i h1 302 8)]) rfl rfl (xkf (xs_k hS rfl rfl : xm_k h1 302 = (11, 0))) ?_
  exact xr_i (inj := xji) rfl rfl rfl rfl hf hQ hS
def f_X10_campaigns (ρ : Nat) (h : xm_H) : Option (Int32 × xm_H) := (some (xm_i h ρ 7, h))
theorem t_X10_campaigns {ρ : Nat} {δ : Nat} {h : xm_H} {w : Int32 × xm_H}  (hS : xS ρ δ h) (hf : f_X10_campaigns ρ h = some w) : xm_Rn xX 1 77 [.ref 160] h (xji w.1) w.2 ∧ xS ρ δ w.2 := by
  refine xt_mk (φ := fun h => xS ρ δ h) (M := xM_X10_campaigns) (ls := [some (.ref 160)]) rfl (Nat.le_of_ble_eq_true rfl) rfl (fun Q hQ => ?_)
  unfold f_X10_campaigns at hf
  refine xw_G (pc' := 1) (st' := [.ref 160]) rfl rfl trivial ?_
  refine xw_gr rfl (xkf (xs_k hS rfl rfl : xm_k h 160 = (0, 0))) (xs_r hS rfl) ?_
  refine xw_gr rfl (xkf (xs_k hS rfl rfl : xm_k h 182 = (3, 0))) (xs_rho hS) ?_
  refine xw_G (pc' := 10) (st' := [.int (xm_i h ρ 7)]) rfl rfl (xkf (xsR0 hS (xs_R hS))) ?_
  exact xr_i (inj := xji) rfl rfl rfl rfl hf hQ hS
def f_X11_campaigns  (h : xm_H) : Option (Int32 × xm_H) := (xl (xm_si h 302 4 (0 : Int32)) fun h1 => (some (xm_i h1 308 14, h1)))
theorem t_X11_campaigns {ρ : Nat} {δ : Nat} {h : xm_H} {w : Int32 × xm_H}  (hS : xS ρ δ h) (hf : f_X11_campaigns  h = some w) : xm_Rn xX 1 176 [.ref 302] h (xji w.1) w.2 ∧ xS ρ δ w.2 := by
  refine xt_mk (φ := fun h => xS ρ δ h) (M := xM_X11_campaigns) (ls := [some (.ref 302)]) rfl (Nat.le_of_ble_eq_true rfl) rfl (fun Q hQ => ?_)
  unfold f_X11_campaigns at hf
  refine xw_G (pc' := 1) (st' := [.ref 302]) rfl rfl trivial ?_
  refine xw_G (pc' := 2) (st' := [.int (0 : Int32), .ref 302]) rfl rfl trivial ?_
  refine xp_i rfl (xkf (xs_k hS rfl rfl : xm_k h 302 = (11, 0))) (Nat.le_of_ble_eq_true rfl) hf (fun h1 e2 hf => ?_)
  have hS := xS_si hS e2
  refine xw_G (pc' := 6) (st' := [.ref 302]) rfl rfl trivial ?_
  refine xw_gr rfl (xkf (xs_k hS rfl rfl : xm_k h1 302 = (11, 0))) (xs_r hS rfl) ?_
  refine xw_G (pc' := 11) (st' := [.int (14 : Int32), .ref 308]) rfl rfl trivial ?_
  refine xa_ld (t := 100) (τ := 0) (v := .int (xm_i h1 308 14)) rfl rfl (xkf (xs_k hS rfl rfl : xm_k h1 308 = (100, 72))) (xkn (xs_k hS rfl rfl : xm_k h1 308 = (100, 72))) (by decide : xin (14 : Int32) 72) rfl ?_
  exact xr_i (inj := xji) rfl rfl rfl rfl hf hQ hS
def f_X10_tags (ρ : Nat) (h : xm_H) : Option (Int32 × xm_H) := (some (xm_i h ρ 5, h))
theorem t_X10_tags {ρ : Nat} {δ : Nat} {h : xm_H} {w : Int32 × xm_H}  (hS : xS ρ δ h) (hf : f_X10_tags ρ h = some w) : xm_Rn xX 1 78 [.ref 160] h (xji w.1) w.2 ∧ xS ρ δ w.2 := by
  refine xt_mk (φ := fun h => xS ρ δ h) (M := xM_X10_tags) (ls := [some (.ref 160)]) rfl (Nat.le_of_ble_eq_true rfl) rfl (fun Q hQ => ?_)
  unfold f_X10_tags at hf
  refine xw_G (pc' := 1) (st' := [.ref 160]) rfl rfl trivial ?_
  refine xw_gr rfl (xkf (xs_k hS rfl rfl : xm_k h 160 = (0, 0))) (xs_r hS rfl) ?_
  refine xw_gr rfl (xkf (xs_k hS rfl rfl : xm_k h 182 = (3, 0))) (xs_rho hS) ?_
  refine xw_G (pc' := 10) (st' := [.int (xm_i h ρ 5)]) rfl rfl (xkf (xsR0 hS (xs_R hS))) ?_
  exact xr_i (inj := xji) rfl rfl rfl rfl hf hQ hS
def f_X11_tags  (h : xm_H) : Option (Int32 × xm_H) := (xl (xm_si h 302 4 (0 : Int32)) fun h1 => (some (xm_i h1 308 7, h1)))
theorem t_X11_tags {ρ : Nat} {δ : Nat} {h : xm_H} {w : Int32 × xm_H}  (hS : xS ρ δ h) (hf : f_X11_tags  h = some w) : xm_Rn xX 1 177 [.ref 302] h (xji w.1) w.2 ∧ xS ρ δ w.2 := by
  refine xt_mk (φ := fun h => xS ρ δ h) (M := xM_X11_tags) (ls := [some (.ref 302)]) rfl (Nat.le_of_ble_eq_true rfl) rfl (fun Q hQ => ?_)
  unfold f_X11_tags at hf
  refine xw_G (pc' := 1) (st' := [.ref 302]) rfl rfl trivial ?_
  refine xw_G (pc' := 2) (st' := [.int (0 : Int32), .ref 302]) rfl rfl trivial ?_
  refine xp_i rfl (xkf (xs_k hS rfl rfl : xm_k h 302 = (11, 0))) (Nat.le_of_ble_eq_true rfl) hf (fun h1 e2 hf => ?_)
  have hS := xS_si hS e2
  refine xw_G (pc' := 6) (st' := [.ref 302]) rfl rfl trivial ?_
  refine xw_gr rfl (xkf (xs_k hS rfl rfl : xm_k h1 302 = (11, 0))) (xs_r hS rfl) ?_
  refine xw_G (pc' := 11) (st' := [.int (7 : Int32), .ref 308]) rfl rfl trivial ?_
  refine xa_ld (t := 100) (τ := 0) (v := .int (xm_i h1 308 7)) rfl rfl (xkf (xs_k hS rfl rfl : xm_k h1 308 = (100, 72))) (xkn (xs_k hS rfl rfl : xm_k h1 308 = (100, 72))) (by decide : xin (7 : Int32) 72) rfl ?_
  exact xr_i (inj := xji) rfl rfl rfl rfl hf hQ hS
def f_X10_slots (ρ : Nat) (h : xm_H) : Option (Int32 × xm_H) := (some (xm_i h ρ 3, h))
theorem t_X10_slots {ρ : Nat} {δ : Nat} {h : xm_H} {w : Int32 × xm_H}  (hS : xS ρ δ h) (hf : f_X10_slots ρ h = some w) : xm_Rn xX 1 79 [.ref 160] h (xji w.1) w.2 ∧ xS ρ δ w.2 := by
  refine xt_mk (φ := fun h => xS ρ δ h) (M := xM_X10_slots) (ls := [some (.ref 160)]) rfl (Nat.le_of_ble_eq_true rfl) rfl (fun Q hQ => ?_)
  unfold f_X10_slots at hf
  refine xw_G (pc' := 1) (st' := [.ref 160]) rfl rfl trivial ?_
  refine xw_gr rfl (xkf (xs_k hS rfl rfl : xm_k h 160 = (0, 0))) (xs_r hS rfl) ?_
  refine xw_gr rfl (xkf (xs_k hS rfl rfl : xm_k h 182 = (3, 0))) (xs_rho hS) ?_
  refine xw_G (pc' := 10) (st' := [.int (xm_i h ρ 3)]) rfl rfl (xkf (xsR0 hS (xs_R hS))) ?_
  exact xr_i (inj := xji) rfl rfl rfl rfl hf hQ hS
def f_X11_slots  (h : xm_H) : Option (Int32 × xm_H) := (xl (xm_si h 302 4 (0 : Int32)) fun h1 => (some (xm_i h1 308 2, h1)))
theorem t_X11_slots {ρ : Nat} {δ : Nat} {h : xm_H} {w : Int32 × xm_H}  (hS : xS ρ δ h) (hf : f_X11_slots  h = some w) : xm_Rn xX 1 178 [.ref 302] h (xji w.1) w.2 ∧ xS ρ δ w.2 := by
  refine xt_mk (φ := fun h => xS ρ δ h) (M := xM_X11_slots) (ls := [some (.ref 302)]) rfl (Nat.le_of_ble_eq_true rfl) rfl (fun Q hQ => ?_)
  unfold f_X11_slots at hf
  refine xw_G (pc' := 1) (st' := [.ref 302]) rfl rfl trivial ?_
  refine xw_G (pc' := 2) (st' := [.int (0 : Int32), .ref 302]) rfl rfl trivial ?_
  refine xp_i rfl (xkf (xs_k hS rfl rfl : xm_k h 302 = (11, 0))) (Nat.le_of_ble_eq_true rfl) hf (fun h1 e2 hf => ?_)
  have hS := xS_si hS e2
  refine xw_G (pc' := 6) (st' := [.ref 302]) rfl rfl trivial ?_
  refine xw_gr rfl (xkf (xs_k hS rfl rfl : xm_k h1 302 = (11, 0))) (xs_r hS rfl) ?_
  refine xw_G (pc' := 10) (st' := [.int (2 : Int32), .ref 308]) rfl rfl trivial ?_
  refine xa_ld (t := 100) (τ := 0) (v := .int (xm_i h1 308 2)) rfl rfl (xkf (xs_k hS rfl rfl : xm_k h1 308 = (100, 72))) (xkn (xs_k hS rfl rfl : xm_k h1 308 = (100, 72))) (by decide : xin (2 : Int32) 72) rfl ?_
  exact xr_i (inj := xji) rfl rfl rfl rfl hf hQ hS
def f_X10_requireTag (ρ : Nat) (x1 : Int32) (h : xm_H) : Option ((Unit ⊕ Nat × Nat) × xm_H) := (if x1 < 0 then (some (.inr (14, xm_n h), xm_new h (14, 0))) else (if x1 < (xm_i h ρ 5) then (some (.inl (), h)) else (some (.inr (14, xm_n h), xm_new h (14, 0)))))
theorem t_X10_requireTag {ρ : Nat} {δ : Nat} {x1 : Int32} {h : xm_H} {w : (Unit ⊕ Nat × Nat) × xm_H}  (hS : xS ρ δ h) (hf : f_X10_requireTag ρ x1 h = some w) : xm_Rn xX 1 126 [.ref 160, .int x1] h (xtv w.1) w.2 ∧ xS ρ δ w.2 := by
  refine xt_mk (φ := fun h => xS ρ δ h) (M := xM_X10_requireTag) (ls := [some (.ref 160), some (.int x1)]) rfl (Nat.le_of_ble_eq_true rfl) rfl (fun Q hQ => ?_)
  unfold f_X10_requireTag at hf
  refine xw_G (pc' := 1) (st' := [.int x1]) rfl rfl trivial ?_
  refine xj_if_lt rfl hf (fun hc1 hf => ?_) (fun hc1 hf => ?_)
  · exact xr_t (inj := xtv) rfl (Nat.le_of_ble_eq_true rfl) rfl hf hQ (xS_new hS rfl)
  · refine xw_G (pc' := 5) (st' := [.int x1]) rfl rfl trivial ?_
    refine xw_G (pc' := 6) (st' := [.ref 160, .int x1]) rfl rfl trivial ?_
    refine xw_gr rfl (xkf (xs_k hS rfl rfl : xm_k h 160 = (0, 0))) (xs_r hS rfl) ?_
    refine xw_gr rfl (xkf (xs_k hS rfl rfl : xm_k h 182 = (3, 0))) (xs_rho hS) ?_
    refine xw_G (pc' := 15) (st' := [.int (xm_i h ρ 5), .int x1]) rfl rfl (xkf (xsR0 hS (xs_R hS))) ?_
    refine xj_ic_lt rfl hf (fun hc2 hf => ?_) (fun hc2 hf => ?_)
    · exact xr_v (inj := xtv) rfl rfl hf hQ hS
    · exact xr_t (inj := xtv) rfl (Nat.le_of_ble_eq_true rfl) rfl hf hQ (xS_new hS rfl)
def f_X10_floor (ρ : Nat) (x1 : Int32) (h : xm_H) : Option ((Int32 ⊕ Nat × Nat) × xm_H) := (xe (f_X10_requireTag ρ x1 h) (fun v1 h2 => (if xin x1 6 then (some (.inl (xm_i h2 202 (Int32.toNatClampNeg x1)), h2)) else none)) (fun q5 h6 => (some (.inr q5, h6))))
theorem t_X10_floor {ρ : Nat} {δ : Nat} {x1 : Int32} {h : xm_H} {w : (Int32 ⊕ Nat × Nat) × xm_H}  (hS : xS ρ δ h) (hf : f_X10_floor ρ x1 h = some w) : xm_Rn xX 2 80 [.ref 160, .int x1] h (xti w.1) w.2 ∧ xS ρ δ w.2 := by
  refine xt_mk (φ := fun h => xS ρ δ h) (M := xM_X10_floor) (ls := [some (.ref 160), some (.int x1)]) rfl (Nat.le_of_ble_eq_true rfl) rfl (fun Q hQ => ?_)
  unfold f_X10_floor at hf
  refine xw_G (pc' := 1) (st' := [.ref 160]) rfl rfl trivial ?_
  refine xw_G (pc' := 2) (st' := [.int x1, .ref 160]) rfl rfl trivial ?_
  refine xe_e hf (fun v1 h2 e3 hf => ?_) (fun q5 h6 e3 hf => ?_)
  · refine xw_V (v := none) rfl rfl (xkf (xs_k hS rfl rfl : xm_k h 160 = (0, 0))) (Nat.le_of_ble_eq_true rfl) (Nat.le_of_ble_eq_true rfl) (xm_Rn_le (Nat.le_of_ble_eq_true rfl) (t_X10_requireTag  hS e3).1) ?_
    have hS := (t_X10_requireTag  hS e3).2
    show xm_W _ _ _ 5 _ [] _
    refine xw_G (pc' := 6) (st' := [.ref 160]) rfl rfl trivial ?_
    refine xw_gr rfl (xkf (xs_k hS rfl rfl : xm_k h2 160 = (0, 0))) (xs_r hS rfl) ?_
    refine xw_gr rfl (xkf (xs_k hS rfl rfl : xm_k h2 182 = (3, 0))) (xs_r hS rfl) ?_
    refine xw_gr rfl (xkf (xs_k hS rfl rfl : xm_k h2 201 = (8, 0))) (xs_r hS rfl) ?_
    refine xw_G (pc' := 16) (st' := [.int x1, .ref 202]) rfl rfl trivial ?_
    refine xg_e hf (fun hg4 hf => ?_)
    refine xa_ld (t := 100) (τ := 0) (v := .int (xm_i h2 202 (Int32.toNatClampNeg x1))) rfl rfl (xkf (xs_k hS rfl rfl : xm_k h2 202 = (100, 6))) (xkn (xs_k hS rfl rfl : xm_k h2 202 = (100, 6))) hg4 rfl ?_
    exact xr_i (inj := xti) rfl rfl rfl rfl hf hQ hS
  · refine xw_VX (x := q5) rfl rfl (xkf (xs_k hS rfl rfl : xm_k h 160 = (0, 0))) (Nat.le_of_ble_eq_true rfl) (Nat.le_of_ble_eq_true rfl) (xm_Rn_le (Nat.le_of_ble_eq_true rfl) (t_X10_requireTag  hS e3).1) rfl ?_
    have hS := (t_X10_requireTag  hS e3).2
    exact xr_x (inj := xti) rfl hf hQ hS
def f_L_floor (ρ : Nat) (x1 : Int32) (h : xm_H) : Option (Int32 × xm_H) := (xe (f_X10_floor ρ x1 h) (fun v1 h2 => (xl (xm_sl h2 316 0 (Int32.toInt64 v1)) fun h4 => (some ((0 : Int32), h4)))) (fun q6 h7 => (if (q6).1 = 14 then (some ((1 : Int32), h7)) else none)))
theorem t_L_floor {ρ : Nat} {δ : Nat} {x1 : Int32} {h : xm_H} {w : Int32 × xm_H}  (hS : xS ρ δ h) (hf : f_L_floor ρ x1 h = some w) : xm_Rn xX 3 328 [.ref 160, .int x1, .ref 316] h (xji w.1) w.2 ∧ xS ρ δ w.2 := by
  refine xt_mk (φ := fun h => xS ρ δ h) (M := xM_L_floor) (ls := [some (.ref 160), some (.int x1), some (.ref 316), none]) rfl (Nat.le_of_ble_eq_true rfl) rfl (fun Q hQ => ?_)
  unfold f_L_floor at hf
  refine xw_G (pc' := 1) (st' := [.ref 316]) rfl rfl trivial ?_
  refine xw_G (pc' := 2) (st' := [.int (0 : Int32), .ref 316]) rfl rfl trivial ?_
  refine xw_G (pc' := 3) (st' := [.ref 160, .int (0 : Int32), .ref 316]) rfl rfl trivial ?_
  refine xw_G (pc' := 4) (st' := [.int x1, .ref 160, .int (0 : Int32), .ref 316]) rfl rfl trivial ?_
  refine xe_e hf (fun v1 h2 e3 hf => ?_) (fun q6 h7 e3 hf => ?_)
  · refine xw_V (v := some (.int v1)) rfl rfl (xkf (xs_k hS rfl rfl : xm_k h 160 = (0, 0))) (Nat.le_of_ble_eq_true rfl) (Nat.le_of_ble_eq_true rfl) (xm_Rn_le (Nat.le_of_ble_eq_true rfl) (t_X10_floor  hS e3).1) ?_
    have hS := (t_X10_floor  hS e3).2
    show xm_W _ _ _ 7 _ [.int v1, .int (0 : Int32), .ref 316] _
    refine xw_G (pc' := 8) (st' := [.long (Int32.toInt64 v1), .int (0 : Int32), .ref 316]) rfl rfl trivial ?_
    refine xa_l rfl (xkf (xs_k hS rfl rfl : xm_k h2 316 = (104, 1))) (xkn (xs_k hS rfl rfl : xm_k h2 316 = (104, 1))) (by decide : xin (0 : Int32) 1) (Nat.le_of_ble_eq_true rfl) hf (fun h4 e5 hf => ?_)
    have hS := xS_sl hS e5
    refine xw_G (pc' := 15) (st' := []) rfl rfl trivial ?_
    refine xw_G (pc' := 16) (st' := [.int (0 : Int32)]) rfl rfl trivial ?_
    exact xr_i (inj := xji) rfl rfl rfl rfl hf hQ hS
  · by_cases hc8 : (q6).1 = 14
    · rw [if_pos hc8] at hf
      refine xw_VH (x := q6) (p := 12) rfl rfl (xkf (xs_k hS rfl rfl : xm_k h 160 = (0, 0))) (Nat.le_of_ble_eq_true rfl) (Nat.le_of_ble_eq_true rfl) (xm_Rn_le (Nat.le_of_ble_eq_true rfl) (t_X10_floor  hS e3).1) (by rw [hc8]; rfl) ?_
      have hS := (t_X10_floor  hS e3).2
      refine xw_G (pc' := 13) (ls' := [some (.ref 160), some (.int x1), some (.ref 316), some (.ref ((q6).2))]) (st' := []) rfl rfl (Nat.le_of_ble_eq_true rfl) ?_
      refine xw_G (pc' := 14) (st' := [.int (1 : Int32)]) rfl rfl trivial ?_
      exact xr_i (inj := xji) rfl rfl rfl rfl hf hQ hS
    · rw [if_neg hc8] at hf
      exact (xn_e hf).elim
def f_X11_isTag (x1 : Int32) (h : xm_H) : Option (Int32 × xm_H) := (xb (f_X11_between (Int32.toInt64 x1) (0 : Int64) (Int32.toInt64 ((xm_i h 308 7) - (1 : Int32))) h) fun v1 h2 => (if v1 = 0 ∨ v1 = 1 then (some (v1, h2)) else none))
theorem t_X11_isTag {ρ : Nat} {δ : Nat} {x1 : Int32} {h : xm_H} {w : Int32 × xm_H}  (hS : xS ρ δ h) (hf : f_X11_isTag x1 h = some w) : xm_Rn xX 2 168 [.ref 302, .int x1] h (xji w.1) w.2 ∧ xS ρ δ w.2 := by
  refine xt_mk (φ := fun h => xS ρ δ h) (M := xM_X11_isTag) (ls := [some (.ref 302), some (.int x1)]) rfl (Nat.le_of_ble_eq_true rfl) rfl (fun Q hQ => ?_)
  unfold f_X11_isTag at hf
  refine xw_G (pc' := 1) (st' := [.int x1]) rfl rfl trivial ?_
  refine xw_G (pc' := 2) (st' := [.long (Int32.toInt64 x1)]) rfl rfl trivial ?_
  refine xw_G (pc' := 3) (st' := [.long (0 : Int64), .long (Int32.toInt64 x1)]) rfl rfl trivial ?_
  refine xw_G (pc' := 4) (st' := [.ref 302, .long (0 : Int64), .long (Int32.toInt64 x1)]) rfl rfl trivial ?_
  refine xw_gr rfl (xkf (xs_k hS rfl rfl : xm_k h 302 = (11, 0))) (xs_r hS rfl) ?_
  refine xw_G (pc' := 9) (st' := [.int (7 : Int32), .ref 308, .long (0 : Int64), .long (Int32.toInt64 x1)]) rfl rfl trivial ?_
  refine xa_ld (t := 100) (τ := 0) (v := .int (xm_i h 308 7)) rfl rfl (xkf (xs_k hS rfl rfl : xm_k h 308 = (100, 72))) (xkn (xs_k hS rfl rfl : xm_k h 308 = (100, 72))) (by decide : xin (7 : Int32) 72) rfl ?_
  refine xw_G (pc' := 11) (st' := [.int (1 : Int32), .int (xm_i h 308 7), .long (0 : Int64), .long (Int32.toInt64 x1)]) rfl rfl trivial ?_
  refine xw_G (pc' := 12) (st' := [.int ((xm_i h 308 7) - (1 : Int32)), .long (0 : Int64), .long (Int32.toInt64 x1)]) rfl rfl trivial ?_
  refine xw_G (pc' := 13) (st' := [.long (Int32.toInt64 ((xm_i h 308 7) - (1 : Int32))), .long (0 : Int64), .long (Int32.toInt64 x1)]) rfl rfl trivial ?_
  refine xb_e hf (fun v1 h2 e3 hf => ?_)
  refine xw_S (v := some (.int v1)) rfl (Nat.le_of_ble_eq_true rfl) (Nat.le_of_ble_eq_true rfl) (xm_Rn_le (Nat.le_of_ble_eq_true rfl) (t_X11_between  hS e3).1) ?_
  have hS := (t_X11_between  hS e3).2
  show xm_W _ _ _ 16 _ [.int v1] _
  refine xg_e hf (fun hg4 hf => ?_)
  exact xr_i (inj := xji) rfl rfl (xnar_z hg4).1 rfl hf hQ hS
def f_X11_good (x1 : Int32) (h : xm_H) : Option (Int32 × xm_H) := (if x1 = 0 then (xl (xm_si h 302 4 (1 : Int32)) fun h2 => (if x1 = 0 ∨ x1 = 1 then (some (x1, h2)) else none)) else (xl (xm_si h 302 4 (0 : Int32)) fun h5 => (if x1 = 0 ∨ x1 = 1 then (some (x1, h5)) else none)))
theorem t_X11_good {ρ : Nat} {δ : Nat} {x1 : Int32} {h : xm_H} {w : Int32 × xm_H}  (hS : xS ρ δ h) (hf : f_X11_good x1 h = some w) : xm_Rn xX 1 134 [.ref 302, .int x1] h (xji w.1) w.2 ∧ xS ρ δ w.2 := by
  refine xt_mk (φ := fun h => xS ρ δ h) (M := xM_X11_good) (ls := [some (.ref 302), some (.int x1)]) rfl (Nat.le_of_ble_eq_true rfl) rfl (fun Q hQ => ?_)
  unfold f_X11_good at hf
  refine xw_G (pc' := 1) (st' := [.ref 302]) rfl rfl trivial ?_
  refine xw_G (pc' := 2) (st' := [.int x1, .ref 302]) rfl rfl trivial ?_
  refine xj_if_eq rfl hf (fun hc1 hf => ?_) (fun hc1 hf => ?_)
  · refine xw_G (pc' := 10) (st' := [.int (1 : Int32), .ref 302]) rfl rfl trivial ?_
    refine xp_i rfl (xkf (xs_k hS rfl rfl : xm_k h 302 = (11, 0))) (Nat.le_of_ble_eq_true rfl) hf (fun h2 e3 hf => ?_)
    have hS := xS_si hS e3
    refine xw_G (pc' := 14) (st' := [.int x1]) rfl rfl trivial ?_
    refine xg_e hf (fun hg4 hf => ?_)
    exact xr_i (inj := xji) rfl rfl (xnar_z hg4).1 rfl hf hQ hS
  · refine xw_G (pc' := 6) (st' := [.int (0 : Int32), .ref 302]) rfl rfl trivial ?_
    refine xw_G (pc' := 10) (st' := [.int (0 : Int32), .ref 302]) rfl rfl trivial ?_
    refine xp_i rfl (xkf (xs_k hS rfl rfl : xm_k h 302 = (11, 0))) (Nat.le_of_ble_eq_true rfl) hf (fun h5 e6 hf => ?_)
    have hS := xS_si hS e6
    refine xw_G (pc' := 14) (st' := [.int x1]) rfl rfl trivial ?_
    refine xg_e hf (fun hg7 hf => ?_)
    exact xr_i (inj := xji) rfl rfl (xnar_z hg7).1 rfl hf hQ hS
def f_X11_floor (x1 : Int32) (h : xm_H) : Option (Int32 × xm_H) := (xb (f_X11_isTag x1 h) fun v1 h2 => (xb (f_X11_good v1 h2) fun v4 h5 => (if v4 = 0 then (some ((0 : Int32), h5)) else (if xin ((51 : Int32) + x1) 2217 then (some (xm_i h5 303 (Int32.toNatClampNeg ((51 : Int32) + x1)), h5)) else none))))
theorem t_X11_floor {ρ : Nat} {δ : Nat} {x1 : Int32} {h : xm_H} {w : Int32 × xm_H}  (hS : xS ρ δ h) (hf : f_X11_floor x1 h = some w) : xm_Rn xX 3 179 [.ref 302, .int x1] h (xji w.1) w.2 ∧ xS ρ δ w.2 := by
  refine xt_mk (φ := fun h => xS ρ δ h) (M := xM_X11_floor) (ls := [some (.ref 302), some (.int x1)]) rfl (Nat.le_of_ble_eq_true rfl) rfl (fun Q hQ => ?_)
  unfold f_X11_floor at hf
  refine xw_G (pc' := 1) (st' := [.ref 302]) rfl rfl trivial ?_
  refine xw_G (pc' := 2) (st' := [.ref 302, .ref 302]) rfl rfl trivial ?_
  refine xw_G (pc' := 3) (st' := [.int x1, .ref 302, .ref 302]) rfl rfl trivial ?_
  refine xb_e hf (fun v1 h2 e3 hf => ?_)
  refine xw_V (v := some (.int v1)) rfl rfl (xkf (xs_k hS rfl rfl : xm_k h 302 = (11, 0))) (Nat.le_of_ble_eq_true rfl) (Nat.le_of_ble_eq_true rfl) (xm_Rn_le (Nat.le_of_ble_eq_true rfl) (t_X11_isTag  hS e3).1) ?_
  have hS := (t_X11_isTag  hS e3).2
  show xm_W _ _ _ 6 _ [.int v1, .ref 302] _
  refine xb_e hf (fun v4 h5 e6 hf => ?_)
  refine xw_V (v := some (.int v4)) rfl rfl (xkf (xs_k hS rfl rfl : xm_k h2 302 = (11, 0))) (Nat.le_of_ble_eq_true rfl) (Nat.le_of_ble_eq_true rfl) (xm_Rn_le (Nat.le_of_ble_eq_true rfl) (t_X11_good  hS e6).1) ?_
  have hS := (t_X11_good  hS e6).2
  show xm_W _ _ _ 9 _ [.int v4] _
  refine xj_if_eq rfl hf (fun hc7 hf => ?_) (fun hc7 hf => ?_)
  · refine xw_G (pc' := 25) (st' := [.int (0 : Int32)]) rfl rfl trivial ?_
    exact xr_i (inj := xji) rfl rfl rfl rfl hf hQ hS
  · refine xw_G (pc' := 13) (st' := [.ref 302]) rfl rfl trivial ?_
    refine xw_gr rfl (xkf (xs_k hS rfl rfl : xm_k h5 302 = (11, 0))) (xs_r hS rfl) ?_
    refine xw_G (pc' := 18) (st' := [.int (51 : Int32), .ref 303]) rfl rfl trivial ?_
    refine xw_G (pc' := 19) (st' := [.int x1, .int (51 : Int32), .ref 303]) rfl rfl trivial ?_
    refine xw_G (pc' := 20) (st' := [.int ((51 : Int32) + x1), .ref 303]) rfl rfl trivial ?_
    refine xg_e hf (fun hg8 hf => ?_)
    refine xa_ld (t := 100) (τ := 0) (v := .int (xm_i h5 303 (Int32.toNatClampNeg ((51 : Int32) + x1)))) rfl rfl (xkf (xs_k hS rfl rfl : xm_k h5 303 = (100, 2217))) (xkn (xs_k hS rfl rfl : xm_k h5 303 = (100, 2217))) hg8 rfl ?_
    refine xw_G (pc' := 25) (st' := [.int (xm_i h5 303 (Int32.toNatClampNeg ((51 : Int32) + x1)))]) rfl rfl trivial ?_
    exact xr_i (inj := xji) rfl rfl rfl rfl hf hQ hS
def f_X10_requireCampaign (ρ : Nat) (x1 : Int32) (h : xm_H) : Option ((Unit ⊕ Nat × Nat) × xm_H) := (if x1 < 0 then (some (.inr (14, xm_n h), xm_new h (14, 0))) else (if x1 < (xm_i h ρ 7) then (some (.inl (), h)) else (some (.inr (14, xm_n h), xm_new h (14, 0)))))
theorem t_X10_requireCampaign {ρ : Nat} {δ : Nat} {x1 : Int32} {h : xm_H} {w : (Unit ⊕ Nat × Nat) × xm_H}  (hS : xS ρ δ h) (hf : f_X10_requireCampaign ρ x1 h = some w) : xm_Rn xX 1 125 [.ref 160, .int x1] h (xtv w.1) w.2 ∧ xS ρ δ w.2 := by
  refine xt_mk (φ := fun h => xS ρ δ h) (M := xM_X10_requireCampaign) (ls := [some (.ref 160), some (.int x1)]) rfl (Nat.le_of_ble_eq_true rfl) rfl (fun Q hQ => ?_)
  unfold f_X10_requireCampaign at hf
  refine xw_G (pc' := 1) (st' := [.int x1]) rfl rfl trivial ?_
  refine xj_if_lt rfl hf (fun hc1 hf => ?_) (fun hc1 hf => ?_)
  · exact xr_t (inj := xtv) rfl (Nat.le_of_ble_eq_true rfl) rfl hf hQ (xS_new hS rfl)
  · refine xw_G (pc' := 5) (st' := [.int x1]) rfl rfl trivial ?_
    refine xw_G (pc' := 6) (st' := [.ref 160, .int x1]) rfl rfl trivial ?_
    refine xw_gr rfl (xkf (xs_k hS rfl rfl : xm_k h 160 = (0, 0))) (xs_r hS rfl) ?_
    refine xw_gr rfl (xkf (xs_k hS rfl rfl : xm_k h 182 = (3, 0))) (xs_rho hS) ?_
    refine xw_G (pc' := 15) (st' := [.int (xm_i h ρ 7), .int x1]) rfl rfl (xkf (xsR0 hS (xs_R hS))) ?_
    refine xj_ic_lt rfl hf (fun hc2 hf => ?_) (fun hc2 hf => ?_)
    · exact xr_v (inj := xtv) rfl rfl hf hQ hS
    · exact xr_t (inj := xtv) rfl (Nat.le_of_ble_eq_true rfl) rfl hf hQ (xS_new hS rfl)
def f_X10_bid (ρ : Nat) (x1 : Int32) (h : xm_H) : Option ((Int32 ⊕ Nat × Nat) × xm_H) := (xe (f_X10_requireCampaign ρ x1 h) (fun v1 h2 => (if xin x1 8 then (some (.inl (xm_i h2 203 (Int32.toNatClampNeg x1)), h2)) else none)) (fun q5 h6 => (some (.inr q5, h6))))
theorem t_X10_bid {ρ : Nat} {δ : Nat} {x1 : Int32} {h : xm_H} {w : (Int32 ⊕ Nat × Nat) × xm_H}  (hS : xS ρ δ h) (hf : f_X10_bid ρ x1 h = some w) : xm_Rn xX 2 81 [.ref 160, .int x1] h (xti w.1) w.2 ∧ xS ρ δ w.2 := by
  refine xt_mk (φ := fun h => xS ρ δ h) (M := xM_X10_bid) (ls := [some (.ref 160), some (.int x1)]) rfl (Nat.le_of_ble_eq_true rfl) rfl (fun Q hQ => ?_)
  unfold f_X10_bid at hf
  refine xw_G (pc' := 1) (st' := [.ref 160]) rfl rfl trivial ?_
  refine xw_G (pc' := 2) (st' := [.int x1, .ref 160]) rfl rfl trivial ?_
  refine xe_e hf (fun v1 h2 e3 hf => ?_) (fun q5 h6 e3 hf => ?_)
  · refine xw_V (v := none) rfl rfl (xkf (xs_k hS rfl rfl : xm_k h 160 = (0, 0))) (Nat.le_of_ble_eq_true rfl) (Nat.le_of_ble_eq_true rfl) (xm_Rn_le (Nat.le_of_ble_eq_true rfl) (t_X10_requireCampaign  hS e3).1) ?_
    have hS := (t_X10_requireCampaign  hS e3).2
    show xm_W _ _ _ 5 _ [] _
    refine xw_G (pc' := 6) (st' := [.ref 160]) rfl rfl trivial ?_
    refine xw_gr rfl (xkf (xs_k hS rfl rfl : xm_k h2 160 = (0, 0))) (xs_r hS rfl) ?_
    refine xw_gr rfl (xkf (xs_k hS rfl rfl : xm_k h2 182 = (3, 0))) (xs_r hS rfl) ?_
    refine xw_gr rfl (xkf (xs_k hS rfl rfl : xm_k h2 201 = (8, 0))) (xs_r hS rfl) ?_
    refine xw_G (pc' := 16) (st' := [.int x1, .ref 203]) rfl rfl trivial ?_
    refine xg_e hf (fun hg4 hf => ?_)
    refine xa_ld (t := 100) (τ := 0) (v := .int (xm_i h2 203 (Int32.toNatClampNeg x1))) rfl rfl (xkf (xs_k hS rfl rfl : xm_k h2 203 = (100, 8))) (xkn (xs_k hS rfl rfl : xm_k h2 203 = (100, 8))) hg4 rfl ?_
    exact xr_i (inj := xti) rfl rfl rfl rfl hf hQ hS
  · refine xw_VX (x := q5) rfl rfl (xkf (xs_k hS rfl rfl : xm_k h 160 = (0, 0))) (Nat.le_of_ble_eq_true rfl) (Nat.le_of_ble_eq_true rfl) (xm_Rn_le (Nat.le_of_ble_eq_true rfl) (t_X10_requireCampaign  hS e3).1) rfl ?_
    have hS := (t_X10_requireCampaign  hS e3).2
    exact xr_x (inj := xti) rfl hf hQ hS
def f_L_bid (ρ : Nat) (x1 : Int32) (h : xm_H) : Option (Int32 × xm_H) := (xe (f_X10_bid ρ x1 h) (fun v1 h2 => (xl (xm_sl h2 316 0 (Int32.toInt64 v1)) fun h4 => (some ((0 : Int32), h4)))) (fun q6 h7 => (if (q6).1 = 14 then (some ((1 : Int32), h7)) else none)))
theorem t_L_bid {ρ : Nat} {δ : Nat} {x1 : Int32} {h : xm_H} {w : Int32 × xm_H}  (hS : xS ρ δ h) (hf : f_L_bid ρ x1 h = some w) : xm_Rn xX 3 329 [.ref 160, .int x1, .ref 316] h (xji w.1) w.2 ∧ xS ρ δ w.2 := by
  refine xt_mk (φ := fun h => xS ρ δ h) (M := xM_L_bid) (ls := [some (.ref 160), some (.int x1), some (.ref 316), none]) rfl (Nat.le_of_ble_eq_true rfl) rfl (fun Q hQ => ?_)
  unfold f_L_bid at hf
  refine xw_G (pc' := 1) (st' := [.ref 316]) rfl rfl trivial ?_
  refine xw_G (pc' := 2) (st' := [.int (0 : Int32), .ref 316]) rfl rfl trivial ?_
  refine xw_G (pc' := 3) (st' := [.ref 160, .int (0 : Int32), .ref 316]) rfl rfl trivial ?_
  refine xw_G (pc' := 4) (st' := [.int x1, .ref 160, .int (0 : Int32), .ref 316]) rfl rfl trivial ?_
  refine xe_e hf (fun v1 h2 e3 hf => ?_) (fun q6 h7 e3 hf => ?_)
  · refine xw_V (v := some (.int v1)) rfl rfl (xkf (xs_k hS rfl rfl : xm_k h 160 = (0, 0))) (Nat.le_of_ble_eq_true rfl) (Nat.le_of_ble_eq_true rfl) (xm_Rn_le (Nat.le_of_ble_eq_true rfl) (t_X10_bid  hS e3).1) ?_
    have hS := (t_X10_bid  hS e3).2
    show xm_W _ _ _ 7 _ [.int v1, .int (0 : Int32), .ref 316] _
    refine xw_G (pc' := 8) (st' := [.long (Int32.toInt64 v1), .int (0 : Int32), .ref 316]) rfl rfl trivial ?_
    refine xa_l rfl (xkf (xs_k hS rfl rfl : xm_k h2 316 = (104, 1))) (xkn (xs_k hS rfl rfl : xm_k h2 316 = (104, 1))) (by decide : xin (0 : Int32) 1) (Nat.le_of_ble_eq_true rfl) hf (fun h4 e5 hf => ?_)
    have hS := xS_sl hS e5
    refine xw_G (pc' := 15) (st' := []) rfl rfl trivial ?_
    refine xw_G (pc' := 16) (st' := [.int (0 : Int32)]) rfl rfl trivial ?_
    exact xr_i (inj := xji) rfl rfl rfl rfl hf hQ hS
  · by_cases hc8 : (q6).1 = 14
    · rw [if_pos hc8] at hf
      refine xw_VH (x := q6) (p := 12) rfl rfl (xkf (xs_k hS rfl rfl : xm_k h 160 = (0, 0))) (Nat.le_of_ble_eq_true rfl) (Nat.le_of_ble_eq_true rfl) (xm_Rn_le (Nat.le_of_ble_eq_true rfl) (t_X10_bid  hS e3).1) (by rw [hc8]; rfl) ?_
      have hS := (t_X10_bid  hS e3).2
      refine xw_G (pc' := 13) (ls' := [some (.ref 160), some (.int x1), some (.ref 316), some (.ref ((q6).2))]) (st' := []) rfl rfl (Nat.le_of_ble_eq_true rfl) ?_
      refine xw_G (pc' := 14) (st' := [.int (1 : Int32)]) rfl rfl trivial ?_
      exact xr_i (inj := xji) rfl rfl rfl rfl hf hQ hS
    · rw [if_neg hc8] at hf
      exact (xn_e hf).elim
def f_X11_isCampaign (x1 : Int32) (h : xm_H) : Option (Int32 × xm_H) := (xb (f_X11_between (Int32.toInt64 x1) (0 : Int64) (Int32.toInt64 ((xm_i h 308 14) - (1 : Int32))) h) fun v1 h2 => (if v1 = 0 ∨ v1 = 1 then (some (v1, h2)) else none))
theorem t_X11_isCampaign {ρ : Nat} {δ : Nat} {x1 : Int32} {h : xm_H} {w : Int32 × xm_H}  (hS : xS ρ δ h) (hf : f_X11_isCampaign x1 h = some w) : xm_Rn xX 2 167 [.ref 302, .int x1] h (xji w.1) w.2 ∧ xS ρ δ w.2 := by
  refine xt_mk (φ := fun h => xS ρ δ h) (M := xM_X11_isCampaign) (ls := [some (.ref 302), some (.int x1)]) rfl (Nat.le_of_ble_eq_true rfl) rfl (fun Q hQ => ?_)
  unfold f_X11_isCampaign at hf
  refine xw_G (pc' := 1) (st' := [.int x1]) rfl rfl trivial ?_
  refine xw_G (pc' := 2) (st' := [.long (Int32.toInt64 x1)]) rfl rfl trivial ?_
  refine xw_G (pc' := 3) (st' := [.long (0 : Int64), .long (Int32.toInt64 x1)]) rfl rfl trivial ?_
  refine xw_G (pc' := 4) (st' := [.ref 302, .long (0 : Int64), .long (Int32.toInt64 x1)]) rfl rfl trivial ?_
  refine xw_gr rfl (xkf (xs_k hS rfl rfl : xm_k h 302 = (11, 0))) (xs_r hS rfl) ?_
  refine xw_G (pc' := 9) (st' := [.int (14 : Int32), .ref 308, .long (0 : Int64), .long (Int32.toInt64 x1)]) rfl rfl trivial ?_
  refine xa_ld (t := 100) (τ := 0) (v := .int (xm_i h 308 14)) rfl rfl (xkf (xs_k hS rfl rfl : xm_k h 308 = (100, 72))) (xkn (xs_k hS rfl rfl : xm_k h 308 = (100, 72))) (by decide : xin (14 : Int32) 72) rfl ?_
  refine xw_G (pc' := 11) (st' := [.int (1 : Int32), .int (xm_i h 308 14), .long (0 : Int64), .long (Int32.toInt64 x1)]) rfl rfl trivial ?_
  refine xw_G (pc' := 12) (st' := [.int ((xm_i h 308 14) - (1 : Int32)), .long (0 : Int64), .long (Int32.toInt64 x1)]) rfl rfl trivial ?_
  refine xw_G (pc' := 13) (st' := [.long (Int32.toInt64 ((xm_i h 308 14) - (1 : Int32))), .long (0 : Int64), .long (Int32.toInt64 x1)]) rfl rfl trivial ?_
  refine xb_e hf (fun v1 h2 e3 hf => ?_)
  refine xw_S (v := some (.int v1)) rfl (Nat.le_of_ble_eq_true rfl) (Nat.le_of_ble_eq_true rfl) (xm_Rn_le (Nat.le_of_ble_eq_true rfl) (t_X11_between  hS e3).1) ?_
  have hS := (t_X11_between  hS e3).2
  show xm_W _ _ _ 16 _ [.int v1] _
  refine xg_e hf (fun hg4 hf => ?_)
  exact xr_i (inj := xji) rfl rfl (xnar_z hg4).1 rfl hf hQ hS
def f_X11_of (x1 : Int32) (x2 : Int32) (h : xm_H) : Option (Int32 × xm_H) := (if xin (((3 : Int32) + ((6 : Int32) * x1)) + x2) 2217 then (some (xm_i h 303 (Int32.toNatClampNeg (((3 : Int32) + ((6 : Int32) * x1)) + x2)), h)) else none)
theorem t_X11_of {ρ : Nat} {δ : Nat} {x1 : Int32} {x2 : Int32} {h : xm_H} {w : Int32 × xm_H}  (hS : xS ρ δ h) (hf : f_X11_of x1 x2 h = some w) : xm_Rn xX 1 171 [.ref 302, .int x1, .int x2] h (xji w.1) w.2 ∧ xS ρ δ w.2 := by
  refine xt_mk (φ := fun h => xS ρ δ h) (M := xM_X11_of) (ls := [some (.ref 302), some (.int x1), some (.int x2)]) rfl (Nat.le_of_ble_eq_true rfl) rfl (fun Q hQ => ?_)
  unfold f_X11_of at hf
  refine xw_G (pc' := 1) (st' := [.ref 302]) rfl rfl trivial ?_
  refine xw_gr rfl (xkf (xs_k hS rfl rfl : xm_k h 302 = (11, 0))) (xs_r hS rfl) ?_
  refine xw_G (pc' := 5) (st' := [.int (3 : Int32), .ref 303]) rfl rfl trivial ?_
  refine xw_G (pc' := 7) (st' := [.int (6 : Int32), .int (3 : Int32), .ref 303]) rfl rfl trivial ?_
  refine xw_G (pc' := 8) (st' := [.int x1, .int (6 : Int32), .int (3 : Int32), .ref 303]) rfl rfl trivial ?_
  refine xw_G (pc' := 9) (st' := [.int ((6 : Int32) * x1), .int (3 : Int32), .ref 303]) rfl rfl trivial ?_
  refine xw_G (pc' := 10) (st' := [.int ((3 : Int32) + ((6 : Int32) * x1)), .ref 303]) rfl rfl trivial ?_
  refine xw_G (pc' := 11) (st' := [.int x2, .int ((3 : Int32) + ((6 : Int32) * x1)), .ref 303]) rfl rfl trivial ?_
  refine xw_G (pc' := 12) (st' := [.int (((3 : Int32) + ((6 : Int32) * x1)) + x2), .ref 303]) rfl rfl trivial ?_
  refine xg_e hf (fun hg1 hf => ?_)
  refine xa_ld (t := 100) (τ := 0) (v := .int (xm_i h 303 (Int32.toNatClampNeg (((3 : Int32) + ((6 : Int32) * x1)) + x2)))) rfl rfl (xkf (xs_k hS rfl rfl : xm_k h 303 = (100, 2217))) (xkn (xs_k hS rfl rfl : xm_k h 303 = (100, 2217))) hg1 rfl ?_
  exact xr_i (inj := xji) rfl rfl rfl rfl hf hQ hS
def f_X11_tell (x1 : Int32) (x2 : Int32) (h : xm_H) : Option (Int32 × xm_H) := (xb (f_X11_isCampaign x1 h) fun v1 h2 => (xb (f_X11_good v1 h2) fun v4 h5 => (if v4 = 0 then (some ((0 : Int32), h5)) else (xb (f_X11_of x1 x2 h5) fun v8 h9 => (some (v8, h9))))))
theorem t_X11_tell {ρ : Nat} {δ : Nat} {x1 : Int32} {x2 : Int32} {h : xm_H} {w : Int32 × xm_H}  (hS : xS ρ δ h) (hf : f_X11_tell x1 x2 h = some w) : xm_Rn xX 3 180 [.ref 302, .int x1, .int x2] h (xji w.1) w.2 ∧ xS ρ δ w.2 := by
  refine xt_mk (φ := fun h => xS ρ δ h) (M := xM_X11_tell) (ls := [some (.ref 302), some (.int x1), some (.int x2)]) rfl (Nat.le_of_ble_eq_true rfl) rfl (fun Q hQ => ?_)
  unfold f_X11_tell at hf
  refine xw_G (pc' := 1) (st' := [.ref 302]) rfl rfl trivial ?_
  refine xw_G (pc' := 2) (st' := [.ref 302, .ref 302]) rfl rfl trivial ?_
  refine xw_G (pc' := 3) (st' := [.int x1, .ref 302, .ref 302]) rfl rfl trivial ?_
  refine xb_e hf (fun v1 h2 e3 hf => ?_)
  refine xw_V (v := some (.int v1)) rfl rfl (xkf (xs_k hS rfl rfl : xm_k h 302 = (11, 0))) (Nat.le_of_ble_eq_true rfl) (Nat.le_of_ble_eq_true rfl) (xm_Rn_le (Nat.le_of_ble_eq_true rfl) (t_X11_isCampaign  hS e3).1) ?_
  have hS := (t_X11_isCampaign  hS e3).2
  show xm_W _ _ _ 6 _ [.int v1, .ref 302] _
  refine xb_e hf (fun v4 h5 e6 hf => ?_)
  refine xw_V (v := some (.int v4)) rfl rfl (xkf (xs_k hS rfl rfl : xm_k h2 302 = (11, 0))) (Nat.le_of_ble_eq_true rfl) (Nat.le_of_ble_eq_true rfl) (xm_Rn_le (Nat.le_of_ble_eq_true rfl) (t_X11_good  hS e6).1) ?_
  have hS := (t_X11_good  hS e6).2
  show xm_W _ _ _ 9 _ [.int v4] _
  refine xj_if_eq rfl hf (fun hc7 hf => ?_) (fun hc7 hf => ?_)
  · refine xw_G (pc' := 22) (st' := [.int (0 : Int32)]) rfl rfl trivial ?_
    exact xr_i (inj := xji) rfl rfl rfl rfl hf hQ hS
  · refine xw_G (pc' := 13) (st' := [.ref 302]) rfl rfl trivial ?_
    refine xw_G (pc' := 14) (st' := [.int x1, .ref 302]) rfl rfl trivial ?_
    refine xw_G (pc' := 15) (st' := [.int x2, .int x1, .ref 302]) rfl rfl trivial ?_
    refine xb_e hf (fun v8 h9 e10 hf => ?_)
    refine xw_V (v := some (.int v8)) rfl rfl (xkf (xs_k hS rfl rfl : xm_k h5 302 = (11, 0))) (Nat.le_of_ble_eq_true rfl) (Nat.le_of_ble_eq_true rfl) (xm_Rn_le (Nat.le_of_ble_eq_true rfl) (t_X11_of  hS e10).1) ?_
    have hS := (t_X11_of  hS e10).2
    show xm_W _ _ _ 18 _ [.int v8] _
    refine xw_G (pc' := 22) (st' := [.int v8]) rfl rfl trivial ?_
    exact xr_i (inj := xji) rfl rfl rfl rfl hf hQ hS
def f_X11_bid (x1 : Int32) (h : xm_H) : Option (Int32 × xm_H) := (xb (f_X11_tell x1 (0 : Int32) h) fun v1 h2 => (some (v1, h2)))
theorem t_X11_bid {ρ : Nat} {δ : Nat} {x1 : Int32} {h : xm_H} {w : Int32 × xm_H}  (hS : xS ρ δ h) (hf : f_X11_bid x1 h = some w) : xm_Rn xX 4 181 [.ref 302, .int x1] h (xji w.1) w.2 ∧ xS ρ δ w.2 := by
  refine xt_mk (φ := fun h => xS ρ δ h) (M := xM_X11_bid) (ls := [some (.ref 302), some (.int x1)]) rfl (Nat.le_of_ble_eq_true rfl) rfl (fun Q hQ => ?_)
  unfold f_X11_bid at hf
  refine xw_G (pc' := 1) (st' := [.ref 302]) rfl rfl trivial ?_
  refine xw_G (pc' := 2) (st' := [.int x1, .ref 302]) rfl rfl trivial ?_
  refine xw_G (pc' := 3) (st' := [.int (0 : Int32), .int x1, .ref 302]) rfl rfl trivial ?_
  refine xb_e hf (fun v1 h2 e3 hf => ?_)
  refine xw_V (v := some (.int v1)) rfl rfl (xkf (xs_k hS rfl rfl : xm_k h 302 = (11, 0))) (Nat.le_of_ble_eq_true rfl) (Nat.le_of_ble_eq_true rfl) (xm_Rn_le (Nat.le_of_ble_eq_true rfl) (t_X11_tell  hS e3).1) ?_
  have hS := (t_X11_tell  hS e3).2
  show xm_W _ _ _ 6 _ [.int v1] _
  exact xr_i (inj := xji) rfl rfl rfl rfl hf hQ hS
def f_X2_perCent (x0 : Int32) (x1 : Int32) (h : xm_H) : Option (Int32 × xm_H) := (some (((x0 * x1) + (99 : Int32)) / (100 : Int32), h))
theorem t_X2_perCent {ρ : Nat} {δ : Nat} {x0 : Int32} {x1 : Int32} {h : xm_H} {w : Int32 × xm_H}  (hS : xS ρ δ h) (hf : f_X2_perCent x0 x1 h = some w) : xm_Rn xX 1 8 [.int x0, .int x1] h (xji w.1) w.2 ∧ xS ρ δ w.2 := by
  refine xt_mk (φ := fun h => xS ρ δ h) (M := xM_X2_perCent) (ls := [some (.int x0), some (.int x1)]) rfl (Nat.le_of_ble_eq_true rfl) rfl (fun Q hQ => ?_)
  unfold f_X2_perCent at hf
  refine xw_G (pc' := 1) (st' := [.int x0]) rfl rfl trivial ?_
  refine xw_G (pc' := 2) (st' := [.int x1, .int x0]) rfl rfl trivial ?_
  refine xw_G (pc' := 3) (st' := [.int (x0 * x1)]) rfl rfl trivial ?_
  refine xw_G (pc' := 5) (st' := [.int (99 : Int32), .int (x0 * x1)]) rfl rfl trivial ?_
  refine xw_G (pc' := 6) (st' := [.int ((x0 * x1) + (99 : Int32))]) rfl rfl trivial ?_
  refine xw_G (pc' := 8) (st' := [.int (100 : Int32), .int ((x0 * x1) + (99 : Int32))]) rfl rfl trivial ?_
  refine xw_G (pc' := 9) (st' := [.int (((x0 * x1) + (99 : Int32)) / (100 : Int32))]) rfl rfl (by decide) ?_
  exact xr_i (inj := xji) rfl rfl rfl rfl hf hQ hS
def f_X2_pacedBid (x1 : Int32) (h : xm_H) : Option (Int32 × xm_H) := (if xin x1 8 then (xb (f_X2_perCent (xm_i h 203 (Int32.toNatClampNeg x1)) (xm_i h 207 (Int32.toNatClampNeg x1)) h) fun v2 h3 => (some (v2, h3))) else none)
theorem t_X2_pacedBid {ρ : Nat} {δ : Nat} {x1 : Int32} {h : xm_H} {w : Int32 × xm_H}  (hS : xS ρ δ h) (hf : f_X2_pacedBid x1 h = some w) : xm_Rn xX 2 7 [.ref 182, .int x1] h (xji w.1) w.2 ∧ xS ρ δ w.2 := by
  refine xt_mk (φ := fun h => xS ρ δ h) (M := xM_X2_pacedBid) (ls := [some (.ref 182), some (.int x1)]) rfl (Nat.le_of_ble_eq_true rfl) rfl (fun Q hQ => ?_)
  unfold f_X2_pacedBid at hf
  refine xw_G (pc' := 1) (st' := [.ref 182]) rfl rfl trivial ?_
  refine xw_gr rfl (xkf (xs_k hS rfl rfl : xm_k h 182 = (3, 0))) (xs_r hS rfl) ?_
  refine xw_gr rfl (xkf (xs_k hS rfl rfl : xm_k h 201 = (8, 0))) (xs_r hS rfl) ?_
  refine xw_G (pc' := 8) (st' := [.int x1, .ref 203]) rfl rfl trivial ?_
  refine xg_e hf (fun hg1 hf => ?_)
  refine xa_ld (t := 100) (τ := 0) (v := .int (xm_i h 203 (Int32.toNatClampNeg x1))) rfl rfl (xkf (xs_k hS rfl rfl : xm_k h 203 = (100, 8))) (xkn (xs_k hS rfl rfl : xm_k h 203 = (100, 8))) hg1 rfl ?_
  refine xw_G (pc' := 10) (st' := [.ref 182, .int (xm_i h 203 (Int32.toNatClampNeg x1))]) rfl rfl trivial ?_
  refine xw_gr rfl (xkf (xs_k hS rfl rfl : xm_k h 182 = (3, 0))) (xs_r hS rfl) ?_
  refine xw_gr rfl (xkf (xs_k hS rfl rfl : xm_k h 201 = (8, 0))) (xs_r hS rfl) ?_
  refine xw_G (pc' := 17) (st' := [.int x1, .ref 207, .int (xm_i h 203 (Int32.toNatClampNeg x1))]) rfl rfl trivial ?_
  refine xa_ld (t := 100) (τ := 0) (v := .int (xm_i h 207 (Int32.toNatClampNeg x1))) rfl rfl (xkf (xs_k hS rfl rfl : xm_k h 207 = (100, 8))) (xkn (xs_k hS rfl rfl : xm_k h 207 = (100, 8))) hg1 rfl ?_
  refine xb_e hf (fun v2 h3 e4 hf => ?_)
  refine xw_S (v := some (.int v2)) rfl (Nat.le_of_ble_eq_true rfl) (Nat.le_of_ble_eq_true rfl) (xm_Rn_le (Nat.le_of_ble_eq_true rfl) (t_X2_perCent  hS e4).1) ?_
  have hS := (t_X2_perCent  hS e4).2
  show xm_W _ _ _ 21 _ [.int v2] _
  exact xr_i (inj := xji) rfl rfl rfl rfl hf hQ hS
def f_X10_effectiveBid (ρ : Nat) (x1 : Int32) (h : xm_H) : Option ((Int32 ⊕ Nat × Nat) × xm_H) := (xe (f_X10_requireCampaign ρ x1 h) (fun v1 h2 => (xb (f_X2_pacedBid x1 h2) fun v4 h5 => (some (.inl v4, h5)))) (fun q7 h8 => (some (.inr q7, h8))))
theorem t_X10_effectiveBid {ρ : Nat} {δ : Nat} {x1 : Int32} {h : xm_H} {w : (Int32 ⊕ Nat × Nat) × xm_H}  (hS : xS ρ δ h) (hf : f_X10_effectiveBid ρ x1 h = some w) : xm_Rn xX 3 82 [.ref 160, .int x1] h (xti w.1) w.2 ∧ xS ρ δ w.2 := by
  refine xt_mk (φ := fun h => xS ρ δ h) (M := xM_X10_effectiveBid) (ls := [some (.ref 160), some (.int x1)]) rfl (Nat.le_of_ble_eq_true rfl) rfl (fun Q hQ => ?_)
  unfold f_X10_effectiveBid at hf
  refine xw_G (pc' := 1) (st' := [.ref 160]) rfl rfl trivial ?_
  refine xw_G (pc' := 2) (st' := [.int x1, .ref 160]) rfl rfl trivial ?_
  refine xe_e hf (fun v1 h2 e3 hf => ?_) (fun q7 h8 e3 hf => ?_)
  · refine xw_V (v := none) rfl rfl (xkf (xs_k hS rfl rfl : xm_k h 160 = (0, 0))) (Nat.le_of_ble_eq_true rfl) (Nat.le_of_ble_eq_true rfl) (xm_Rn_le (Nat.le_of_ble_eq_true rfl) (t_X10_requireCampaign  hS e3).1) ?_
    have hS := (t_X10_requireCampaign  hS e3).2
    show xm_W _ _ _ 5 _ [] _
    refine xw_G (pc' := 6) (st' := [.ref 160]) rfl rfl trivial ?_
    refine xw_gr rfl (xkf (xs_k hS rfl rfl : xm_k h2 160 = (0, 0))) (xs_r hS rfl) ?_
    refine xw_G (pc' := 10) (st' := [.int x1, .ref 182]) rfl rfl trivial ?_
    refine xb_e hf (fun v4 h5 e6 hf => ?_)
    refine xw_V (v := some (.int v4)) rfl rfl (xkf (xs_k hS rfl rfl : xm_k h2 182 = (3, 0))) (Nat.le_of_ble_eq_true rfl) (Nat.le_of_ble_eq_true rfl) (xm_Rn_le (Nat.le_of_ble_eq_true rfl) (t_X2_pacedBid  hS e6).1) ?_
    have hS := (t_X2_pacedBid  hS e6).2
    show xm_W _ _ _ 13 _ [.int v4] _
    exact xr_i (inj := xti) rfl rfl rfl rfl hf hQ hS
  · refine xw_VX (x := q7) rfl rfl (xkf (xs_k hS rfl rfl : xm_k h 160 = (0, 0))) (Nat.le_of_ble_eq_true rfl) (Nat.le_of_ble_eq_true rfl) (xm_Rn_le (Nat.le_of_ble_eq_true rfl) (t_X10_requireCampaign  hS e3).1) rfl ?_
    have hS := (t_X10_requireCampaign  hS e3).2
    exact xr_x (inj := xti) rfl hf hQ hS
def f_L_effectiveBid (ρ : Nat) (x1 : Int32) (h : xm_H) : Option (Int32 × xm_H) := (xe (f_X10_effectiveBid ρ x1 h) (fun v1 h2 => (xl (xm_sl h2 316 0 (Int32.toInt64 v1)) fun h4 => (some ((0 : Int32), h4)))) (fun q6 h7 => (if (q6).1 = 14 then (some ((1 : Int32), h7)) else none)))
theorem t_L_effectiveBid {ρ : Nat} {δ : Nat} {x1 : Int32} {h : xm_H} {w : Int32 × xm_H}  (hS : xS ρ δ h) (hf : f_L_effectiveBid ρ x1 h = some w) : xm_Rn xX 4 330 [.ref 160, .int x1, .ref 316] h (xji w.1) w.2 ∧ xS ρ δ w.2 := by
  refine xt_mk (φ := fun h => xS ρ δ h) (M := xM_L_effectiveBid) (ls := [some (.ref 160), some (.int x1), some (.ref 316), none]) rfl (Nat.le_of_ble_eq_true rfl) rfl (fun Q hQ => ?_)
  unfold f_L_effectiveBid at hf
  refine xw_G (pc' := 1) (st' := [.ref 316]) rfl rfl trivial ?_
  refine xw_G (pc' := 2) (st' := [.int (0 : Int32), .ref 316]) rfl rfl trivial ?_
  refine xw_G (pc' := 3) (st' := [.ref 160, .int (0 : Int32), .ref 316]) rfl rfl trivial ?_
  refine xw_G (pc' := 4) (st' := [.int x1, .ref 160, .int (0 : Int32), .ref 316]) rfl rfl trivial ?_
  refine xe_e hf (fun v1 h2 e3 hf => ?_) (fun q6 h7 e3 hf => ?_)
  · refine xw_V (v := some (.int v1)) rfl rfl (xkf (xs_k hS rfl rfl : xm_k h 160 = (0, 0))) (Nat.le_of_ble_eq_true rfl) (Nat.le_of_ble_eq_true rfl) (xm_Rn_le (Nat.le_of_ble_eq_true rfl) (t_X10_effectiveBid  hS e3).1) ?_
    have hS := (t_X10_effectiveBid  hS e3).2
    show xm_W _ _ _ 7 _ [.int v1, .int (0 : Int32), .ref 316] _
    refine xw_G (pc' := 8) (st' := [.long (Int32.toInt64 v1), .int (0 : Int32), .ref 316]) rfl rfl trivial ?_
    refine xa_l rfl (xkf (xs_k hS rfl rfl : xm_k h2 316 = (104, 1))) (xkn (xs_k hS rfl rfl : xm_k h2 316 = (104, 1))) (by decide : xin (0 : Int32) 1) (Nat.le_of_ble_eq_true rfl) hf (fun h4 e5 hf => ?_)
    have hS := xS_sl hS e5
    refine xw_G (pc' := 15) (st' := []) rfl rfl trivial ?_
    refine xw_G (pc' := 16) (st' := [.int (0 : Int32)]) rfl rfl trivial ?_
    exact xr_i (inj := xji) rfl rfl rfl rfl hf hQ hS
  · by_cases hc8 : (q6).1 = 14
    · rw [if_pos hc8] at hf
      refine xw_VH (x := q6) (p := 12) rfl rfl (xkf (xs_k hS rfl rfl : xm_k h 160 = (0, 0))) (Nat.le_of_ble_eq_true rfl) (Nat.le_of_ble_eq_true rfl) (xm_Rn_le (Nat.le_of_ble_eq_true rfl) (t_X10_effectiveBid  hS e3).1) (by rw [hc8]; rfl) ?_
      have hS := (t_X10_effectiveBid  hS e3).2
      refine xw_G (pc' := 13) (ls' := [some (.ref 160), some (.int x1), some (.ref 316), some (.ref ((q6).2))]) (st' := []) rfl rfl (Nat.le_of_ble_eq_true rfl) ?_
      refine xw_G (pc' := 14) (st' := [.int (1 : Int32)]) rfl rfl trivial ?_
      exact xr_i (inj := xji) rfl rfl rfl rfl hf hQ hS
    · rw [if_neg hc8] at hf
      exact (xn_e hf).elim
def f_X11_effective (x1 : Int32) (h : xm_H) : Option (Int32 × xm_H) := (xb (f_X11_of x1 (0 : Int32) h) fun v1 h2 => (xb (f_X11_of x1 (3 : Int32) h2) fun v4 h5 => (some (((v1 * v4) + (99 : Int32)) / (100 : Int32), h5))))
theorem t_X11_effective {ρ : Nat} {δ : Nat} {x1 : Int32} {h : xm_H} {w : Int32 × xm_H}  (hS : xS ρ δ h) (hf : f_X11_effective x1 h = some w) : xm_Rn xX 2 173 [.ref 302, .int x1] h (xji w.1) w.2 ∧ xS ρ δ w.2 := by
  refine xt_mk (φ := fun h => xS ρ δ h) (M := xM_X11_effective) (ls := [some (.ref 302), some (.int x1)]) rfl (Nat.le_of_ble_eq_true rfl) rfl (fun Q hQ => ?_)
  unfold f_X11_effective at hf
  refine xw_G (pc' := 1) (st' := [.ref 302]) rfl rfl trivial ?_
  refine xw_G (pc' := 2) (st' := [.int x1, .ref 302]) rfl rfl trivial ?_
  refine xw_G (pc' := 3) (st' := [.int (0 : Int32), .int x1, .ref 302]) rfl rfl trivial ?_
  refine xb_e hf (fun v1 h2 e3 hf => ?_)
  refine xw_V (v := some (.int v1)) rfl rfl (xkf (xs_k hS rfl rfl : xm_k h 302 = (11, 0))) (Nat.le_of_ble_eq_true rfl) (Nat.le_of_ble_eq_true rfl) (xm_Rn_le (Nat.le_of_ble_eq_true rfl) (t_X11_of  hS e3).1) ?_
  have hS := (t_X11_of  hS e3).2
  show xm_W _ _ _ 6 _ [.int v1] _
  refine xw_G (pc' := 7) (st' := [.ref 302, .int v1]) rfl rfl trivial ?_
  refine xw_G (pc' := 8) (st' := [.int x1, .ref 302, .int v1]) rfl rfl trivial ?_
  refine xw_G (pc' := 9) (st' := [.int (3 : Int32), .int x1, .ref 302, .int v1]) rfl rfl trivial ?_
  refine xb_e hf (fun v4 h5 e6 hf => ?_)
  refine xw_V (v := some (.int v4)) rfl rfl (xkf (xs_k hS rfl rfl : xm_k h2 302 = (11, 0))) (Nat.le_of_ble_eq_true rfl) (Nat.le_of_ble_eq_true rfl) (xm_Rn_le (Nat.le_of_ble_eq_true rfl) (t_X11_of  hS e6).1) ?_
  have hS := (t_X11_of  hS e6).2
  show xm_W _ _ _ 12 _ [.int v4, .int v1] _
  refine xw_G (pc' := 13) (st' := [.int (v1 * v4)]) rfl rfl trivial ?_
  refine xw_G (pc' := 15) (st' := [.int (99 : Int32), .int (v1 * v4)]) rfl rfl trivial ?_
  refine xw_G (pc' := 16) (st' := [.int ((v1 * v4) + (99 : Int32))]) rfl rfl trivial ?_
  refine xw_G (pc' := 18) (st' := [.int (100 : Int32), .int ((v1 * v4) + (99 : Int32))]) rfl rfl trivial ?_
  refine xw_G (pc' := 19) (st' := [.int (((v1 * v4) + (99 : Int32)) / (100 : Int32))]) rfl rfl (by decide) ?_
  exact xr_i (inj := xji) rfl rfl rfl rfl hf hQ hS
def f_X11_effectiveBid (x1 : Int32) (h : xm_H) : Option (Int32 × xm_H) := (xb (f_X11_isCampaign x1 h) fun v1 h2 => (xb (f_X11_good v1 h2) fun v4 h5 => (if v4 = 0 then (some ((0 : Int32), h5)) else (xb (f_X11_effective x1 h5) fun v8 h9 => (some (v8, h9))))))
theorem t_X11_effectiveBid {ρ : Nat} {δ : Nat} {x1 : Int32} {h : xm_H} {w : Int32 × xm_H}  (hS : xS ρ δ h) (hf : f_X11_effectiveBid x1 h = some w) : xm_Rn xX 3 182 [.ref 302, .int x1] h (xji w.1) w.2 ∧ xS ρ δ w.2 := by
  refine xt_mk (φ := fun h => xS ρ δ h) (M := xM_X11_effectiveBid) (ls := [some (.ref 302), some (.int x1)]) rfl (Nat.le_of_ble_eq_true rfl) rfl (fun Q hQ => ?_)
  unfold f_X11_effectiveBid at hf
  refine xw_G (pc' := 1) (st' := [.ref 302]) rfl rfl trivial ?_
  refine xw_G (pc' := 2) (st' := [.ref 302, .ref 302]) rfl rfl trivial ?_
  refine xw_G (pc' := 3) (st' := [.int x1, .ref 302, .ref 302]) rfl rfl trivial ?_
  refine xb_e hf (fun v1 h2 e3 hf => ?_)
  refine xw_V (v := some (.int v1)) rfl rfl (xkf (xs_k hS rfl rfl : xm_k h 302 = (11, 0))) (Nat.le_of_ble_eq_true rfl) (Nat.le_of_ble_eq_true rfl) (xm_Rn_le (Nat.le_of_ble_eq_true rfl) (t_X11_isCampaign  hS e3).1) ?_
  have hS := (t_X11_isCampaign  hS e3).2
  show xm_W _ _ _ 6 _ [.int v1, .ref 302] _
  refine xb_e hf (fun v4 h5 e6 hf => ?_)
  refine xw_V (v := some (.int v4)) rfl rfl (xkf (xs_k hS rfl rfl : xm_k h2 302 = (11, 0))) (Nat.le_of_ble_eq_true rfl) (Nat.le_of_ble_eq_true rfl) (xm_Rn_le (Nat.le_of_ble_eq_true rfl) (t_X11_good  hS e6).1) ?_
  have hS := (t_X11_good  hS e6).2
  show xm_W _ _ _ 9 _ [.int v4] _
  refine xj_if_eq rfl hf (fun hc7 hf => ?_) (fun hc7 hf => ?_)
  · refine xw_G (pc' := 21) (st' := [.int (0 : Int32)]) rfl rfl trivial ?_
    exact xr_i (inj := xji) rfl rfl rfl rfl hf hQ hS
  · refine xw_G (pc' := 13) (st' := [.ref 302]) rfl rfl trivial ?_
    refine xw_G (pc' := 14) (st' := [.int x1, .ref 302]) rfl rfl trivial ?_
    refine xb_e hf (fun v8 h9 e10 hf => ?_)
    refine xw_V (v := some (.int v8)) rfl rfl (xkf (xs_k hS rfl rfl : xm_k h5 302 = (11, 0))) (Nat.le_of_ble_eq_true rfl) (Nat.le_of_ble_eq_true rfl) (xm_Rn_le (Nat.le_of_ble_eq_true rfl) (t_X11_effective  hS e10).1) ?_
    have hS := (t_X11_effective  hS e10).2
    show xm_W _ _ _ 17 _ [.int v8] _
    refine xw_G (pc' := 21) (st' := [.int v8]) rfl rfl trivial ?_
    exact xr_i (inj := xji) rfl rfl rfl rfl hf hQ hS
def f_X10_multiplier (ρ : Nat) (x1 : Int32) (h : xm_H) : Option ((Int32 ⊕ Nat × Nat) × xm_H) := (xe (f_X10_requireCampaign ρ x1 h) (fun v1 h2 => (if xin x1 8 then (some (.inl (xm_i h2 207 (Int32.toNatClampNeg x1)), h2)) else none)) (fun q5 h6 => (some (.inr q5, h6))))
theorem t_X10_multiplier {ρ : Nat} {δ : Nat} {x1 : Int32} {h : xm_H} {w : (Int32 ⊕ Nat × Nat) × xm_H}  (hS : xS ρ δ h) (hf : f_X10_multiplier ρ x1 h = some w) : xm_Rn xX 2 83 [.ref 160, .int x1] h (xti w.1) w.2 ∧ xS ρ δ w.2 := by
  refine xt_mk (φ := fun h => xS ρ δ h) (M := xM_X10_multiplier) (ls := [some (.ref 160), some (.int x1)]) rfl (Nat.le_of_ble_eq_true rfl) rfl (fun Q hQ => ?_)
  unfold f_X10_multiplier at hf
  refine xw_G (pc' := 1) (st' := [.ref 160]) rfl rfl trivial ?_
  refine xw_G (pc' := 2) (st' := [.int x1, .ref 160]) rfl rfl trivial ?_
  refine xe_e hf (fun v1 h2 e3 hf => ?_) (fun q5 h6 e3 hf => ?_)
  · refine xw_V (v := none) rfl rfl (xkf (xs_k hS rfl rfl : xm_k h 160 = (0, 0))) (Nat.le_of_ble_eq_true rfl) (Nat.le_of_ble_eq_true rfl) (xm_Rn_le (Nat.le_of_ble_eq_true rfl) (t_X10_requireCampaign  hS e3).1) ?_
    have hS := (t_X10_requireCampaign  hS e3).2
    show xm_W _ _ _ 5 _ [] _
    refine xw_G (pc' := 6) (st' := [.ref 160]) rfl rfl trivial ?_
    refine xw_gr rfl (xkf (xs_k hS rfl rfl : xm_k h2 160 = (0, 0))) (xs_r hS rfl) ?_
    refine xw_gr rfl (xkf (xs_k hS rfl rfl : xm_k h2 182 = (3, 0))) (xs_r hS rfl) ?_
    refine xw_gr rfl (xkf (xs_k hS rfl rfl : xm_k h2 201 = (8, 0))) (xs_r hS rfl) ?_
    refine xw_G (pc' := 16) (st' := [.int x1, .ref 207]) rfl rfl trivial ?_
    refine xg_e hf (fun hg4 hf => ?_)
    refine xa_ld (t := 100) (τ := 0) (v := .int (xm_i h2 207 (Int32.toNatClampNeg x1))) rfl rfl (xkf (xs_k hS rfl rfl : xm_k h2 207 = (100, 8))) (xkn (xs_k hS rfl rfl : xm_k h2 207 = (100, 8))) hg4 rfl ?_
    exact xr_i (inj := xti) rfl rfl rfl rfl hf hQ hS
  · refine xw_VX (x := q5) rfl rfl (xkf (xs_k hS rfl rfl : xm_k h 160 = (0, 0))) (Nat.le_of_ble_eq_true rfl) (Nat.le_of_ble_eq_true rfl) (xm_Rn_le (Nat.le_of_ble_eq_true rfl) (t_X10_requireCampaign  hS e3).1) rfl ?_
    have hS := (t_X10_requireCampaign  hS e3).2
    exact xr_x (inj := xti) rfl hf hQ hS
def f_L_multiplier (ρ : Nat) (x1 : Int32) (h : xm_H) : Option (Int32 × xm_H) := (xe (f_X10_multiplier ρ x1 h) (fun v1 h2 => (xl (xm_sl h2 316 0 (Int32.toInt64 v1)) fun h4 => (some ((0 : Int32), h4)))) (fun q6 h7 => (if (q6).1 = 14 then (some ((1 : Int32), h7)) else none)))
theorem t_L_multiplier {ρ : Nat} {δ : Nat} {x1 : Int32} {h : xm_H} {w : Int32 × xm_H}  (hS : xS ρ δ h) (hf : f_L_multiplier ρ x1 h = some w) : xm_Rn xX 3 331 [.ref 160, .int x1, .ref 316] h (xji w.1) w.2 ∧ xS ρ δ w.2 := by
  refine xt_mk (φ := fun h => xS ρ δ h) (M := xM_L_multiplier) (ls := [some (.ref 160), some (.int x1), some (.ref 316), none]) rfl (Nat.le_of_ble_eq_true rfl) rfl (fun Q hQ => ?_)
  unfold f_L_multiplier at hf
  refine xw_G (pc' := 1) (st' := [.ref 316]) rfl rfl trivial ?_
  refine xw_G (pc' := 2) (st' := [.int (0 : Int32), .ref 316]) rfl rfl trivial ?_
  refine xw_G (pc' := 3) (st' := [.ref 160, .int (0 : Int32), .ref 316]) rfl rfl trivial ?_
  refine xw_G (pc' := 4) (st' := [.int x1, .ref 160, .int (0 : Int32), .ref 316]) rfl rfl trivial ?_
  refine xe_e hf (fun v1 h2 e3 hf => ?_) (fun q6 h7 e3 hf => ?_)
  · refine xw_V (v := some (.int v1)) rfl rfl (xkf (xs_k hS rfl rfl : xm_k h 160 = (0, 0))) (Nat.le_of_ble_eq_true rfl) (Nat.le_of_ble_eq_true rfl) (xm_Rn_le (Nat.le_of_ble_eq_true rfl) (t_X10_multiplier  hS e3).1) ?_
    have hS := (t_X10_multiplier  hS e3).2
    show xm_W _ _ _ 7 _ [.int v1, .int (0 : Int32), .ref 316] _
    refine xw_G (pc' := 8) (st' := [.long (Int32.toInt64 v1), .int (0 : Int32), .ref 316]) rfl rfl trivial ?_
    refine xa_l rfl (xkf (xs_k hS rfl rfl : xm_k h2 316 = (104, 1))) (xkn (xs_k hS rfl rfl : xm_k h2 316 = (104, 1))) (by decide : xin (0 : Int32) 1) (Nat.le_of_ble_eq_true rfl) hf (fun h4 e5 hf => ?_)
    have hS := xS_sl hS e5
    refine xw_G (pc' := 15) (st' := []) rfl rfl trivial ?_
    refine xw_G (pc' := 16) (st' := [.int (0 : Int32)]) rfl rfl trivial ?_
    exact xr_i (inj := xji) rfl rfl rfl rfl hf hQ hS
  · by_cases hc8 : (q6).1 = 14
    · rw [if_pos hc8] at hf
      refine xw_VH (x := q6) (p := 12) rfl rfl (xkf (xs_k hS rfl rfl : xm_k h 160 = (0, 0))) (Nat.le_of_ble_eq_true rfl) (Nat.le_of_ble_eq_true rfl) (xm_Rn_le (Nat.le_of_ble_eq_true rfl) (t_X10_multiplier  hS e3).1) (by rw [hc8]; rfl) ?_
      have hS := (t_X10_multiplier  hS e3).2
      refine xw_G (pc' := 13) (ls' := [some (.ref 160), some (.int x1), some (.ref 316), some (.ref ((q6).2))]) (st' := []) rfl rfl (Nat.le_of_ble_eq_true rfl) ?_
      refine xw_G (pc' := 14) (st' := [.int (1 : Int32)]) rfl rfl trivial ?_
      exact xr_i (inj := xji) rfl rfl rfl rfl hf hQ hS
    · rw [if_neg hc8] at hf
      exact (xn_e hf).elim
def f_X11_multiplier (x1 : Int32) (h : xm_H) : Option (Int32 × xm_H) := (xb (f_X11_tell x1 (3 : Int32) h) fun v1 h2 => (some (v1, h2)))
theorem t_X11_multiplier {ρ : Nat} {δ : Nat} {x1 : Int32} {h : xm_H} {w : Int32 × xm_H}  (hS : xS ρ δ h) (hf : f_X11_multiplier x1 h = some w) : xm_Rn xX 4 183 [.ref 302, .int x1] h (xji w.1) w.2 ∧ xS ρ δ w.2 := by
  refine xt_mk (φ := fun h => xS ρ δ h) (M := xM_X11_multiplier) (ls := [some (.ref 302), some (.int x1)]) rfl (Nat.le_of_ble_eq_true rfl) rfl (fun Q hQ => ?_)
  unfold f_X11_multiplier at hf
  refine xw_G (pc' := 1) (st' := [.ref 302]) rfl rfl trivial ?_
  refine xw_G (pc' := 2) (st' := [.int x1, .ref 302]) rfl rfl trivial ?_
  refine xw_G (pc' := 3) (st' := [.int (3 : Int32), .int x1, .ref 302]) rfl rfl trivial ?_
  refine xb_e hf (fun v1 h2 e3 hf => ?_)
  refine xw_V (v := some (.int v1)) rfl rfl (xkf (xs_k hS rfl rfl : xm_k h 302 = (11, 0))) (Nat.le_of_ble_eq_true rfl) (Nat.le_of_ble_eq_true rfl) (xm_Rn_le (Nat.le_of_ble_eq_true rfl) (t_X11_tell  hS e3).1) ?_
  have hS := (t_X11_tell  hS e3).2
  show xm_W _ _ _ 6 _ [.int v1] _
  exact xr_i (inj := xji) rfl rfl rfl rfl hf hQ hS
def f_X10_budget (ρ : Nat) (x1 : Int32) (h : xm_H) : Option ((Int32 ⊕ Nat × Nat) × xm_H) := (xe (f_X10_requireCampaign ρ x1 h) (fun v1 h2 => (if xin x1 8 then (some (.inl (xm_i h2 204 (Int32.toNatClampNeg x1)), h2)) else none)) (fun q5 h6 => (some (.inr q5, h6))))
theorem t_X10_budget {ρ : Nat} {δ : Nat} {x1 : Int32} {h : xm_H} {w : (Int32 ⊕ Nat × Nat) × xm_H}  (hS : xS ρ δ h) (hf : f_X10_budget ρ x1 h = some w) : xm_Rn xX 2 84 [.ref 160, .int x1] h (xti w.1) w.2 ∧ xS ρ δ w.2 := by
  refine xt_mk (φ := fun h => xS ρ δ h) (M := xM_X10_budget) (ls := [some (.ref 160), some (.int x1)]) rfl (Nat.le_of_ble_eq_true rfl) rfl (fun Q hQ => ?_)
  unfold f_X10_budget at hf
  refine xw_G (pc' := 1) (st' := [.ref 160]) rfl rfl trivial ?_
  refine xw_G (pc' := 2) (st' := [.int x1, .ref 160]) rfl rfl trivial ?_
  refine xe_e hf (fun v1 h2 e3 hf => ?_) (fun q5 h6 e3 hf => ?_)
  · refine xw_V (v := none) rfl rfl (xkf (xs_k hS rfl rfl : xm_k h 160 = (0, 0))) (Nat.le_of_ble_eq_true rfl) (Nat.le_of_ble_eq_true rfl) (xm_Rn_le (Nat.le_of_ble_eq_true rfl) (t_X10_requireCampaign  hS e3).1) ?_
    have hS := (t_X10_requireCampaign  hS e3).2
    show xm_W _ _ _ 5 _ [] _
    refine xw_G (pc' := 6) (st' := [.ref 160]) rfl rfl trivial ?_
    refine xw_gr rfl (xkf (xs_k hS rfl rfl : xm_k h2 160 = (0, 0))) (xs_r hS rfl) ?_
    refine xw_gr rfl (xkf (xs_k hS rfl rfl : xm_k h2 182 = (3, 0))) (xs_r hS rfl) ?_
    refine xw_gr rfl (xkf (xs_k hS rfl rfl : xm_k h2 201 = (8, 0))) (xs_r hS rfl) ?_
    refine xw_G (pc' := 16) (st' := [.int x1, .ref 204]) rfl rfl trivial ?_
    refine xg_e hf (fun hg4 hf => ?_)
    refine xa_ld (t := 100) (τ := 0) (v := .int (xm_i h2 204 (Int32.toNatClampNeg x1))) rfl rfl (xkf (xs_k hS rfl rfl : xm_k h2 204 = (100, 8))) (xkn (xs_k hS rfl rfl : xm_k h2 204 = (100, 8))) hg4 rfl ?_
    exact xr_i (inj := xti) rfl rfl rfl rfl hf hQ hS
  · refine xw_VX (x := q5) rfl rfl (xkf (xs_k hS rfl rfl : xm_k h 160 = (0, 0))) (Nat.le_of_ble_eq_true rfl) (Nat.le_of_ble_eq_true rfl) (xm_Rn_le (Nat.le_of_ble_eq_true rfl) (t_X10_requireCampaign  hS e3).1) rfl ?_
    have hS := (t_X10_requireCampaign  hS e3).2
    exact xr_x (inj := xti) rfl hf hQ hS
def f_L_budget (ρ : Nat) (x1 : Int32) (h : xm_H) : Option (Int32 × xm_H) := (xe (f_X10_budget ρ x1 h) (fun v1 h2 => (xl (xm_sl h2 316 0 (Int32.toInt64 v1)) fun h4 => (some ((0 : Int32), h4)))) (fun q6 h7 => (if (q6).1 = 14 then (some ((1 : Int32), h7)) else none)))
theorem t_L_budget {ρ : Nat} {δ : Nat} {x1 : Int32} {h : xm_H} {w : Int32 × xm_H}  (hS : xS ρ δ h) (hf : f_L_budget ρ x1 h = some w) : xm_Rn xX 3 332 [.ref 160, .int x1, .ref 316] h (xji w.1) w.2 ∧ xS ρ δ w.2 := by
  refine xt_mk (φ := fun h => xS ρ δ h) (M := xM_L_budget) (ls := [some (.ref 160), some (.int x1), some (.ref 316), none]) rfl (Nat.le_of_ble_eq_true rfl) rfl (fun Q hQ => ?_)
  unfold f_L_budget at hf
  refine xw_G (pc' := 1) (st' := [.ref 316]) rfl rfl trivial ?_
  refine xw_G (pc' := 2) (st' := [.int (0 : Int32), .ref 316]) rfl rfl trivial ?_
  refine xw_G (pc' := 3) (st' := [.ref 160, .int (0 : Int32), .ref 316]) rfl rfl trivial ?_
  refine xw_G (pc' := 4) (st' := [.int x1, .ref 160, .int (0 : Int32), .ref 316]) rfl rfl trivial ?_
  refine xe_e hf (fun v1 h2 e3 hf => ?_) (fun q6 h7 e3 hf => ?_)
  · refine xw_V (v := some (.int v1)) rfl rfl (xkf (xs_k hS rfl rfl : xm_k h 160 = (0, 0))) (Nat.le_of_ble_eq_true rfl) (Nat.le_of_ble_eq_true rfl) (xm_Rn_le (Nat.le_of_ble_eq_true rfl) (t_X10_budget  hS e3).1) ?_
    have hS := (t_X10_budget  hS e3).2
    show xm_W _ _ _ 7 _ [.int v1, .int (0 : Int32), .ref 316] _
    refine xw_G (pc' := 8) (st' := [.long (Int32.toInt64 v1), .int (0 : Int32), .ref 316]) rfl rfl trivial ?_
    refine xa_l rfl (xkf (xs_k hS rfl rfl : xm_k h2 316 = (104, 1))) (xkn (xs_k hS rfl rfl : xm_k h2 316 = (104, 1))) (by decide : xin (0 : Int32) 1) (Nat.le_of_ble_eq_true rfl) hf (fun h4 e5 hf => ?_)
    have hS := xS_sl hS e5
    refine xw_G (pc' := 15) (st' := []) rfl rfl trivial ?_
    refine xw_G (pc' := 16) (st' := [.int (0 : Int32)]) rfl rfl trivial ?_
    exact xr_i (inj := xji) rfl rfl rfl rfl hf hQ hS
  · by_cases hc8 : (q6).1 = 14
    · rw [if_pos hc8] at hf
      refine xw_VH (x := q6) (p := 12) rfl rfl (xkf (xs_k hS rfl rfl : xm_k h 160 = (0, 0))) (Nat.le_of_ble_eq_true rfl) (Nat.le_of_ble_eq_true rfl) (xm_Rn_le (Nat.le_of_ble_eq_true rfl) (t_X10_budget  hS e3).1) (by rw [hc8]; rfl) ?_
      have hS := (t_X10_budget  hS e3).2
      refine xw_G (pc' := 13) (ls' := [some (.ref 160), some (.int x1), some (.ref 316), some (.ref ((q6).2))]) (st' := []) rfl rfl (Nat.le_of_ble_eq_true rfl) ?_
      refine xw_G (pc' := 14) (st' := [.int (1 : Int32)]) rfl rfl trivial ?_
      exact xr_i (inj := xji) rfl rfl rfl rfl hf hQ hS
    · rw [if_neg hc8] at hf
      exact (xn_e hf).elim
def f_X11_budget (x1 : Int32) (h : xm_H) : Option (Int32 × xm_H) := (xb (f_X11_tell x1 (1 : Int32) h) fun v1 h2 => (some (v1, h2)))
theorem t_X11_budget {ρ : Nat} {δ : Nat} {x1 : Int32} {h : xm_H} {w : Int32 × xm_H}  (hS : xS ρ δ h) (hf : f_X11_budget x1 h = some w) : xm_Rn xX 4 184 [.ref 302, .int x1] h (xji w.1) w.2 ∧ xS ρ δ w.2 := by
  refine xt_mk (φ := fun h => xS ρ δ h) (M := xM_X11_budget) (ls := [some (.ref 302), some (.int x1)]) rfl (Nat.le_of_ble_eq_true rfl) rfl (fun Q hQ => ?_)
  unfold f_X11_budget at hf
  refine xw_G (pc' := 1) (st' := [.ref 302]) rfl rfl trivial ?_
  refine xw_G (pc' := 2) (st' := [.int x1, .ref 302]) rfl rfl trivial ?_
  refine xw_G (pc' := 3) (st' := [.int (1 : Int32), .int x1, .ref 302]) rfl rfl trivial ?_
  refine xb_e hf (fun v1 h2 e3 hf => ?_)
  refine xw_V (v := some (.int v1)) rfl rfl (xkf (xs_k hS rfl rfl : xm_k h 302 = (11, 0))) (Nat.le_of_ble_eq_true rfl) (Nat.le_of_ble_eq_true rfl) (xm_Rn_le (Nat.le_of_ble_eq_true rfl) (t_X11_tell  hS e3).1) ?_
  have hS := (t_X11_tell  hS e3).2
  show xm_W _ _ _ 6 _ [.int v1] _
  exact xr_i (inj := xji) rfl rfl rfl rfl hf hQ hS
def f_X10_spent (ρ : Nat) (x1 : Int32) (h : xm_H) : Option ((Int32 ⊕ Nat × Nat) × xm_H) := (xe (f_X10_requireCampaign ρ x1 h) (fun v1 h2 => (if xin x1 8 then (some (.inl (xm_i h2 206 (Int32.toNatClampNeg x1)), h2)) else none)) (fun q5 h6 => (some (.inr q5, h6))))
theorem t_X10_spent {ρ : Nat} {δ : Nat} {x1 : Int32} {h : xm_H} {w : (Int32 ⊕ Nat × Nat) × xm_H}  (hS : xS ρ δ h) (hf : f_X10_spent ρ x1 h = some w) : xm_Rn xX 2 85 [.ref 160, .int x1] h (xti w.1) w.2 ∧ xS ρ δ w.2 := by
  refine xt_mk (φ := fun h => xS ρ δ h) (M := xM_X10_spent) (ls := [some (.ref 160), some (.int x1)]) rfl (Nat.le_of_ble_eq_true rfl) rfl (fun Q hQ => ?_)
  unfold f_X10_spent at hf
  refine xw_G (pc' := 1) (st' := [.ref 160]) rfl rfl trivial ?_
  refine xw_G (pc' := 2) (st' := [.int x1, .ref 160]) rfl rfl trivial ?_
  refine xe_e hf (fun v1 h2 e3 hf => ?_) (fun q5 h6 e3 hf => ?_)
  · refine xw_V (v := none) rfl rfl (xkf (xs_k hS rfl rfl : xm_k h 160 = (0, 0))) (Nat.le_of_ble_eq_true rfl) (Nat.le_of_ble_eq_true rfl) (xm_Rn_le (Nat.le_of_ble_eq_true rfl) (t_X10_requireCampaign  hS e3).1) ?_
    have hS := (t_X10_requireCampaign  hS e3).2
    show xm_W _ _ _ 5 _ [] _
    refine xw_G (pc' := 6) (st' := [.ref 160]) rfl rfl trivial ?_
    refine xw_gr rfl (xkf (xs_k hS rfl rfl : xm_k h2 160 = (0, 0))) (xs_r hS rfl) ?_
    refine xw_gr rfl (xkf (xs_k hS rfl rfl : xm_k h2 182 = (3, 0))) (xs_r hS rfl) ?_
    refine xw_gr rfl (xkf (xs_k hS rfl rfl : xm_k h2 201 = (8, 0))) (xs_r hS rfl) ?_
    refine xw_G (pc' := 16) (st' := [.int x1, .ref 206]) rfl rfl trivial ?_
    refine xg_e hf (fun hg4 hf => ?_)
    refine xa_ld (t := 100) (τ := 0) (v := .int (xm_i h2 206 (Int32.toNatClampNeg x1))) rfl rfl (xkf (xs_k hS rfl rfl : xm_k h2 206 = (100, 8))) (xkn (xs_k hS rfl rfl : xm_k h2 206 = (100, 8))) hg4 rfl ?_
    exact xr_i (inj := xti) rfl rfl rfl rfl hf hQ hS
  · refine xw_VX (x := q5) rfl rfl (xkf (xs_k hS rfl rfl : xm_k h 160 = (0, 0))) (Nat.le_of_ble_eq_true rfl) (Nat.le_of_ble_eq_true rfl) (xm_Rn_le (Nat.le_of_ble_eq_true rfl) (t_X10_requireCampaign  hS e3).1) rfl ?_
    have hS := (t_X10_requireCampaign  hS e3).2
    exact xr_x (inj := xti) rfl hf hQ hS
def f_L_spent (ρ : Nat) (x1 : Int32) (h : xm_H) : Option (Int32 × xm_H) := (xe (f_X10_spent ρ x1 h) (fun v1 h2 => (xl (xm_sl h2 316 0 (Int32.toInt64 v1)) fun h4 => (some ((0 : Int32), h4)))) (fun q6 h7 => (if (q6).1 = 14 then (some ((1 : Int32), h7)) else none)))
theorem t_L_spent {ρ : Nat} {δ : Nat} {x1 : Int32} {h : xm_H} {w : Int32 × xm_H}  (hS : xS ρ δ h) (hf : f_L_spent ρ x1 h = some w) : xm_Rn xX 3 333 [.ref 160, .int x1, .ref 316] h (xji w.1) w.2 ∧ xS ρ δ w.2 := by
  refine xt_mk (φ := fun h => xS ρ δ h) (M := xM_L_spent) (ls := [some (.ref 160), some (.int x1), some (.ref 316), none]) rfl (Nat.le_of_ble_eq_true rfl) rfl (fun Q hQ => ?_)
  unfold f_L_spent at hf
  refine xw_G (pc' := 1) (st' := [.ref 316]) rfl rfl trivial ?_
  refine xw_G (pc' := 2) (st' := [.int (0 : Int32), .ref 316]) rfl rfl trivial ?_
  refine xw_G (pc' := 3) (st' := [.ref 160, .int (0 : Int32), .ref 316]) rfl rfl trivial ?_
  refine xw_G (pc' := 4) (st' := [.int x1, .ref 160, .int (0 : Int32), .ref 316]) rfl rfl trivial ?_
  refine xe_e hf (fun v1 h2 e3 hf => ?_) (fun q6 h7 e3 hf => ?_)
  · refine xw_V (v := some (.int v1)) rfl rfl (xkf (xs_k hS rfl rfl : xm_k h 160 = (0, 0))) (Nat.le_of_ble_eq_true rfl) (Nat.le_of_ble_eq_true rfl) (xm_Rn_le (Nat.le_of_ble_eq_true rfl) (t_X10_spent  hS e3).1) ?_
    have hS := (t_X10_spent  hS e3).2
    show xm_W _ _ _ 7 _ [.int v1, .int (0 : Int32), .ref 316] _
    refine xw_G (pc' := 8) (st' := [.long (Int32.toInt64 v1), .int (0 : Int32), .ref 316]) rfl rfl trivial ?_
    refine xa_l rfl (xkf (xs_k hS rfl rfl : xm_k h2 316 = (104, 1))) (xkn (xs_k hS rfl rfl : xm_k h2 316 = (104, 1))) (by decide : xin (0 : Int32) 1) (Nat.le_of_ble_eq_true rfl) hf (fun h4 e5 hf => ?_)
    have hS := xS_sl hS e5
    refine xw_G (pc' := 15) (st' := []) rfl rfl trivial ?_
    refine xw_G (pc' := 16) (st' := [.int (0 : Int32)]) rfl rfl trivial ?_
    exact xr_i (inj := xji) rfl rfl rfl rfl hf hQ hS
  · by_cases hc8 : (q6).1 = 14
    · rw [if_pos hc8] at hf
      refine xw_VH (x := q6) (p := 12) rfl rfl (xkf (xs_k hS rfl rfl : xm_k h 160 = (0, 0))) (Nat.le_of_ble_eq_true rfl) (Nat.le_of_ble_eq_true rfl) (xm_Rn_le (Nat.le_of_ble_eq_true rfl) (t_X10_spent  hS e3).1) (by rw [hc8]; rfl) ?_
      have hS := (t_X10_spent  hS e3).2
      refine xw_G (pc' := 13) (ls' := [some (.ref 160), some (.int x1), some (.ref 316), some (.ref ((q6).2))]) (st' := []) rfl rfl (Nat.le_of_ble_eq_true rfl) ?_
      refine xw_G (pc' := 14) (st' := [.int (1 : Int32)]) rfl rfl trivial ?_
      exact xr_i (inj := xji) rfl rfl rfl rfl hf hQ hS
    · rw [if_neg hc8] at hf
      exact (xn_e hf).elim
def f_X11_spent (x1 : Int32) (h : xm_H) : Option (Int32 × xm_H) := (xb (f_X11_tell x1 (2 : Int32) h) fun v1 h2 => (some (v1, h2)))
theorem t_X11_spent {ρ : Nat} {δ : Nat} {x1 : Int32} {h : xm_H} {w : Int32 × xm_H}  (hS : xS ρ δ h) (hf : f_X11_spent x1 h = some w) : xm_Rn xX 4 185 [.ref 302, .int x1] h (xji w.1) w.2 ∧ xS ρ δ w.2 := by
  refine xt_mk (φ := fun h => xS ρ δ h) (M := xM_X11_spent) (ls := [some (.ref 302), some (.int x1)]) rfl (Nat.le_of_ble_eq_true rfl) rfl (fun Q hQ => ?_)
  unfold f_X11_spent at hf
  refine xw_G (pc' := 1) (st' := [.ref 302]) rfl rfl trivial ?_
  refine xw_G (pc' := 2) (st' := [.int x1, .ref 302]) rfl rfl trivial ?_
  refine xw_G (pc' := 3) (st' := [.int (2 : Int32), .int x1, .ref 302]) rfl rfl trivial ?_
  refine xb_e hf (fun v1 h2 e3 hf => ?_)
  refine xw_V (v := some (.int v1)) rfl rfl (xkf (xs_k hS rfl rfl : xm_k h 302 = (11, 0))) (Nat.le_of_ble_eq_true rfl) (Nat.le_of_ble_eq_true rfl) (xm_Rn_le (Nat.le_of_ble_eq_true rfl) (t_X11_tell  hS e3).1) ?_
  have hS := (t_X11_tell  hS e3).2
  show xm_W _ _ _ 6 _ [.int v1] _
  exact xr_i (inj := xji) rfl rfl rfl rfl hf hQ hS
def f_X2_planned (ρ : Nat) (x1 : Int32) (h : xm_H) : Option (Int32 × xm_H) := (if 0 < (xm_i h ρ 0) then (if xin x1 8 then (if ¬ (xm_i h ρ 0) = 0 then (some (((xm_i h 204 (Int32.toNatClampNeg x1)) * ((1 : Int32) + (xm_i h 201 1))) / (xm_i h ρ 0), h)) else none) else none) else (if xin x1 8 then (some (((xm_i h 204 (Int32.toNatClampNeg x1)) * ((1 : Int32) + (xm_i h 201 1))) / (1 : Int32), h)) else none))
theorem t_X2_planned {ρ : Nat} {δ : Nat} {x1 : Int32} {h : xm_H} {w : Int32 × xm_H}  (hS : xS ρ δ h) (hf : f_X2_planned ρ x1 h = some w) : xm_Rn xX 1 9 [.ref 182, .int x1] h (xji w.1) w.2 ∧ xS ρ δ w.2 := by
  refine xt_mk (φ := fun h => xS ρ δ h) (M := xM_X2_planned) (ls := [some (.ref 182), some (.int x1), none]) rfl (Nat.le_of_ble_eq_true rfl) rfl (fun Q hQ => ?_)
  unfold f_X2_planned at hf
  refine xw_G (pc' := 1) (st' := [.ref 182]) rfl rfl trivial ?_
  refine xw_gr rfl (xkf (xs_k hS rfl rfl : xm_k h 182 = (3, 0))) (xs_rho hS) ?_
  refine xw_G (pc' := 7) (st' := [.int (xm_i h ρ 0)]) rfl rfl (xkf (xsR0 hS (xs_R hS))) ?_
  refine xj_if_le rfl hf (fun hc1 hf => ?_) (fun hc1 hf => ?_)
  · refine xw_G (pc' := 11) (st' := [.ref 182]) rfl rfl trivial ?_
    refine xw_gr rfl (xkf (xs_k hS rfl rfl : xm_k h 182 = (3, 0))) (xs_rho hS) ?_
    refine xw_G (pc' := 17) (st' := [.int (xm_i h ρ 0)]) rfl rfl (xkf (xsR0 hS (xs_R hS))) ?_
    refine xw_G (pc' := 21) (st' := [.int (xm_i h ρ 0)]) rfl rfl trivial ?_
    refine xw_G (pc' := 22) (ls' := [some (.ref 182), some (.int x1), some (.int (xm_i h ρ 0))]) (st' := []) rfl rfl (Nat.le_of_ble_eq_true rfl) ?_
    refine xw_G (pc' := 23) (st' := [.ref 182]) rfl rfl trivial ?_
    refine xw_gr rfl (xkf (xs_k hS rfl rfl : xm_k h 182 = (3, 0))) (xs_r hS rfl) ?_
    refine xw_gr rfl (xkf (xs_k hS rfl rfl : xm_k h 201 = (8, 0))) (xs_r hS rfl) ?_
    refine xw_G (pc' := 30) (st' := [.int x1, .ref 204]) rfl rfl trivial ?_
    refine xg_e hf (fun hg2 hf => ?_)
    refine xa_ld (t := 100) (τ := 0) (v := .int (xm_i h 204 (Int32.toNatClampNeg x1))) rfl rfl (xkf (xs_k hS rfl rfl : xm_k h 204 = (100, 8))) (xkn (xs_k hS rfl rfl : xm_k h 204 = (100, 8))) hg2 rfl ?_
    refine xw_G (pc' := 32) (st' := [.int (1 : Int32), .int (xm_i h 204 (Int32.toNatClampNeg x1))]) rfl rfl trivial ?_
    refine xw_G (pc' := 33) (st' := [.ref 182, .int (1 : Int32), .int (xm_i h 204 (Int32.toNatClampNeg x1))]) rfl rfl trivial ?_
    refine xw_gr rfl (xkf (xs_k hS rfl rfl : xm_k h 182 = (3, 0))) (xs_r hS rfl) ?_
    refine xw_G (pc' := 39) (st' := [.int (xm_i h 201 1), .int (1 : Int32), .int (xm_i h 204 (Int32.toNatClampNeg x1))]) rfl rfl (xkf (xs_k hS rfl rfl : xm_k h 201 = (8, 0))) ?_
    refine xw_G (pc' := 40) (st' := [.int ((1 : Int32) + (xm_i h 201 1)), .int (xm_i h 204 (Int32.toNatClampNeg x1))]) rfl rfl trivial ?_
    refine xw_G (pc' := 41) (st' := [.int ((xm_i h 204 (Int32.toNatClampNeg x1)) * ((1 : Int32) + (xm_i h 201 1)))]) rfl rfl trivial ?_
    refine xw_G (pc' := 42) (st' := [.int (xm_i h ρ 0), .int ((xm_i h 204 (Int32.toNatClampNeg x1)) * ((1 : Int32) + (xm_i h 201 1)))]) rfl rfl trivial ?_
    refine xg_e hf (fun hg3 hf => ?_)
    refine xw_G (pc' := 43) (st' := [.int (((xm_i h 204 (Int32.toNatClampNeg x1)) * ((1 : Int32) + (xm_i h 201 1))) / (xm_i h ρ 0))]) rfl rfl hg3 ?_
    exact xr_i (inj := xji) rfl rfl rfl rfl hf hQ hS
  · refine xw_G (pc' := 21) (st' := [.int (1 : Int32)]) rfl rfl trivial ?_
    refine xw_G (pc' := 22) (ls' := [some (.ref 182), some (.int x1), some (.int (1 : Int32))]) (st' := []) rfl rfl (Nat.le_of_ble_eq_true rfl) ?_
    refine xw_G (pc' := 23) (st' := [.ref 182]) rfl rfl trivial ?_
    refine xw_gr rfl (xkf (xs_k hS rfl rfl : xm_k h 182 = (3, 0))) (xs_r hS rfl) ?_
    refine xw_gr rfl (xkf (xs_k hS rfl rfl : xm_k h 201 = (8, 0))) (xs_r hS rfl) ?_
    refine xw_G (pc' := 30) (st' := [.int x1, .ref 204]) rfl rfl trivial ?_
    refine xg_e hf (fun hg4 hf => ?_)
    refine xa_ld (t := 100) (τ := 0) (v := .int (xm_i h 204 (Int32.toNatClampNeg x1))) rfl rfl (xkf (xs_k hS rfl rfl : xm_k h 204 = (100, 8))) (xkn (xs_k hS rfl rfl : xm_k h 204 = (100, 8))) hg4 rfl ?_
    refine xw_G (pc' := 32) (st' := [.int (1 : Int32), .int (xm_i h 204 (Int32.toNatClampNeg x1))]) rfl rfl trivial ?_
    refine xw_G (pc' := 33) (st' := [.ref 182, .int (1 : Int32), .int (xm_i h 204 (Int32.toNatClampNeg x1))]) rfl rfl trivial ?_
    refine xw_gr rfl (xkf (xs_k hS rfl rfl : xm_k h 182 = (3, 0))) (xs_r hS rfl) ?_
    refine xw_G (pc' := 39) (st' := [.int (xm_i h 201 1), .int (1 : Int32), .int (xm_i h 204 (Int32.toNatClampNeg x1))]) rfl rfl (xkf (xs_k hS rfl rfl : xm_k h 201 = (8, 0))) ?_
    refine xw_G (pc' := 40) (st' := [.int ((1 : Int32) + (xm_i h 201 1)), .int (xm_i h 204 (Int32.toNatClampNeg x1))]) rfl rfl trivial ?_
    refine xw_G (pc' := 41) (st' := [.int ((xm_i h 204 (Int32.toNatClampNeg x1)) * ((1 : Int32) + (xm_i h 201 1)))]) rfl rfl trivial ?_
    refine xw_G (pc' := 42) (st' := [.int (1 : Int32), .int ((xm_i h 204 (Int32.toNatClampNeg x1)) * ((1 : Int32) + (xm_i h 201 1)))]) rfl rfl trivial ?_
    refine xw_G (pc' := 43) (st' := [.int (((xm_i h 204 (Int32.toNatClampNeg x1)) * ((1 : Int32) + (xm_i h 201 1))) / (1 : Int32))]) rfl rfl (by decide) ?_
    exact xr_i (inj := xji) rfl rfl rfl rfl hf hQ hS
