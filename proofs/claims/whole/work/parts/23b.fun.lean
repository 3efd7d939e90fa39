/-! printed by wip/gen/gen23.py: methods as functions of their arguments and the heap -/
def f_X5_isCampaign (N : Nat) (δ : Nat) (h : xm_H) : Option (Int32 × xm_H) := (if (xm_i h 162 4) = (1 : Int32) then (xb (f_X9_spells N 17 h) fun v2 h3 => (if v2 = 0 then (xb (f_X5_findCampaign N δ h3) fun v6 h7 => (xl (xm_si h7 161 2 v6) fun h9 => (if (xm_i h9 161 2) = (-1 : Int32) then (xb (f_X5_fail (4 : Int32) h9) fun v12 h13 => (if v12 = 0 then (some ((0 : Int32), h13)) else (some ((1 : Int32), h13)))) else (some ((1 : Int32), h9))))) else (xb (f_X5_unexpected h3) fun v16 h17 => (if v16 = 0 ∨ v16 = 1 then (some (v16, h17)) else none)))) else (xb (f_X5_unexpected h) fun v20 h21 => (if v20 = 0 ∨ v20 = 1 then (some (v20, h21)) else none)))
theorem t_X5_isCampaign {N : Nat} {ρ : Nat} {δ : Nat} {h : xm_H} {w : Int32 × xm_H}  (hS : xS ρ δ h) (hf : f_X5_isCampaign N δ h = some w) : xm_Rn xX 7 48 [.ref 161] h (xji w.1) w.2 ∧ xS ρ δ w.2 := by
  refine xt_mk (φ := fun h => xS ρ δ h) (M := xM_X5_isCampaign) (ls := [some (.ref 161)]) rfl (Nat.le_of_ble_eq_true rfl) rfl (fun Q hQ => ?_)
  unfold f_X5_isCampaign at hf
  refine xw_G (pc' := 1) (st' := [.ref 161]) rfl rfl trivial ?_
  refine xw_gr rfl (xkf (xs_k hS rfl rfl : xm_k h 161 = (6, 0))) (xs_r hS rfl) ?_
  refine xw_G (pc' := 7) (st' := [.int (xm_i h 162 4)]) rfl rfl (xkf (xs_k hS rfl rfl : xm_k h 162 = (10, 0))) ?_
  refine xw_G (pc' := 8) (st' := [.int (1 : Int32), .int (xm_i h 162 4)]) rfl rfl trivial ?_
  refine xj_ic_ne rfl hf (fun hc1 hf => ?_) (fun hc1 hf => ?_)
  · refine xw_G (pc' := 12) (st' := [.ref 161]) rfl rfl trivial ?_
    refine xw_gr rfl (xkf (xs_k hS rfl rfl : xm_k h 161 = (6, 0))) (xs_r hS rfl) ?_
    refine xw_G (pc' := 17) (st' := [.ref 17, .ref 162]) rfl rfl trivial ?_
    refine xb_e hf (fun v2 h3 e4 hf => ?_)
    refine xw_V (v := some (.int v2)) rfl rfl (xkf (xs_k hS rfl rfl : xm_k h 162 = (10, 0))) (Nat.le_of_ble_eq_true rfl) (Nat.le_of_ble_eq_true rfl) (xm_Rn_le (Nat.le_of_ble_eq_true rfl) (t_X9_spells  hS e4).1) ?_
    have hS := (t_X9_spells  hS e4).2
    show xm_W _ _ _ 20 _ [.int v2] _
    refine xj_if_eq rfl hf (fun hc5 hf => ?_) (fun hc5 hf => ?_)
    · refine xw_G (pc' := 29) (st' := [.ref 161]) rfl rfl trivial ?_
      refine xw_G (pc' := 30) (st' := [.ref 161, .ref 161]) rfl rfl trivial ?_
      refine xb_e hf (fun v6 h7 e8 hf => ?_)
      refine xw_V (v := some (.int v6)) rfl rfl (xkf (xs_k hS rfl rfl : xm_k h3 161 = (6, 0))) (Nat.le_of_ble_eq_true rfl) (Nat.le_of_ble_eq_true rfl) (xm_Rn_le (Nat.le_of_ble_eq_true rfl) (t_X5_findCampaign  hS e8).1) ?_
      have hS := (t_X5_findCampaign  hS e8).2
      show xm_W _ _ _ 33 _ [.int v6, .ref 161] _
      refine xp_i rfl (xkf (xs_k hS rfl rfl : xm_k h7 161 = (6, 0))) (Nat.le_of_ble_eq_true rfl) hf (fun h9 e10 hf => ?_)
      have hS := xS_si hS e10
      refine xw_G (pc' := 37) (st' := [.ref 161]) rfl rfl trivial ?_
      refine xw_G (pc' := 40) (st' := [.int (xm_i h9 161 2)]) rfl rfl (xkf (xs_k hS rfl rfl : xm_k h9 161 = (6, 0))) ?_
      refine xw_G (pc' := 41) (st' := [.int (-1 : Int32), .int (xm_i h9 161 2)]) rfl rfl trivial ?_
      refine xj_ic_ne rfl hf (fun hc11 hf => ?_) (fun hc11 hf => ?_)
      · refine xw_G (pc' := 45) (st' := [.ref 161]) rfl rfl trivial ?_
        refine xw_G (pc' := 46) (st' := [.int (4 : Int32), .ref 161]) rfl rfl trivial ?_
        refine xb_e hf (fun v12 h13 e14 hf => ?_)
        refine xw_V (v := some (.int v12)) rfl rfl (xkf (xs_k hS rfl rfl : xm_k h9 161 = (6, 0))) (Nat.le_of_ble_eq_true rfl) (Nat.le_of_ble_eq_true rfl) (xm_Rn_le (Nat.le_of_ble_eq_true rfl) (t_X5_fail  hS e14).1) ?_
        have hS := (t_X5_fail  hS e14).2
        show xm_W _ _ _ 49 _ [.int v12] _
        refine xj_if_eq rfl hf (fun hc15 hf => ?_) (fun hc15 hf => ?_)
        · refine xw_G (pc' := 57) (st' := [.int (0 : Int32)]) rfl rfl trivial ?_
          exact xr_i (inj := xji) rfl rfl rfl rfl hf hQ hS
        · refine xw_G (pc' := 53) (st' := [.int (1 : Int32)]) rfl rfl trivial ?_
          refine xw_G (pc' := 57) (st' := [.int (1 : Int32)]) rfl rfl trivial ?_
          exact xr_i (inj := xji) rfl rfl rfl rfl hf hQ hS
      · refine xw_G (pc' := 53) (st' := [.int (1 : Int32)]) rfl rfl trivial ?_
        refine xw_G (pc' := 57) (st' := [.int (1 : Int32)]) rfl rfl trivial ?_
        exact xr_i (inj := xji) rfl rfl rfl rfl hf hQ hS
    · refine xw_G (pc' := 24) (st' := [.ref 161]) rfl rfl trivial ?_
      refine xb_e hf (fun v16 h17 e18 hf => ?_)
      refine xw_V (v := some (.int v16)) rfl rfl (xkf (xs_k hS rfl rfl : xm_k h3 161 = (6, 0))) (Nat.le_of_ble_eq_true rfl) (Nat.le_of_ble_eq_true rfl) (xm_Rn_le (Nat.le_of_ble_eq_true rfl) (t_X5_unexpected  hS e18).1) ?_
      have hS := (t_X5_unexpected  hS e18).2
      show xm_W _ _ _ 27 _ [.int v16] _
      refine xg_e hf (fun hg19 hf => ?_)
      exact xr_i (inj := xji) rfl rfl (xnar_z hg19).1 rfl hf hQ hS
  · refine xw_G (pc' := 24) (st' := [.ref 161]) rfl rfl trivial ?_
    refine xb_e hf (fun v20 h21 e22 hf => ?_)
    refine xw_V (v := some (.int v20)) rfl rfl (xkf (xs_k hS rfl rfl : xm_k h 161 = (6, 0))) (Nat.le_of_ble_eq_true rfl) (Nat.le_of_ble_eq_true rfl) (xm_Rn_le (Nat.le_of_ble_eq_true rfl) (t_X5_unexpected  hS e22).1) ?_
    have hS := (t_X5_unexpected  hS e22).2
    show xm_W _ _ _ 27 _ [.int v20] _
    refine xg_e hf (fun hg23 hf => ?_)
    exact xr_i (inj := xji) rfl rfl (xnar_z hg23).1 rfl hf hQ hS
def f_X5_pace (N : Nat) (δ : Nat) (h : xm_H) : Option (Int32 × xm_H) := (xb (f_X9_advance N h) fun v1 h2 => (xb (f_X5_isCampaign N δ h2) fun v4 h5 => (if v4 = 0 then (some ((0 : Int32), h5)) else (xb (f_X9_advance N h5) fun v8 h9 => (if xin (xm_i h9 161 2) 8 then (xb (f_X9_spells N 23 h9) fun v12 h13 => (if v12 = 0 then (xb (f_X9_spells N 25 h13) fun v16 h17 => (if v16 = 0 then (xb (f_X9_spells N 27 h17) fun v20 h21 => (if v20 = 0 then (xb (f_X5_unexpected h21) fun v24 h25 => (if v24 = 0 ∨ v24 = 1 then (some (v24, h25)) else none)) else (xl (xm_si h21 (δ + 10 + Int32.toNatClampNeg (xm_i h9 161 2)) 6 (2 : Int32)) fun h28 => (xb (f_X9_advance N h28) fun v30 h31 => (xb (f_X5_takeSemicolon N h31) fun v33 h34 => (if v33 = 0 ∨ v33 = 1 then (some (v33, h34)) else none)))))) else (xl (xm_si h17 (δ + 10 + Int32.toNatClampNeg (xm_i h9 161 2)) 6 (1 : Int32)) fun h37 => (xb (f_X9_advance N h37) fun v39 h40 => (xb (f_X5_takeSemicolon N h40) fun v42 h43 => (if v42 = 0 ∨ v42 = 1 then (some (v42, h43)) else none)))))) else (xl (xm_si h13 (δ + 10 + Int32.toNatClampNeg (xm_i h9 161 2)) 6 (0 : Int32)) fun h46 => (xb (f_X9_advance N h46) fun v48 h49 => (xb (f_X5_takeSemicolon N h49) fun v51 h52 => (if v51 = 0 ∨ v51 = 1 then (some (v51, h52)) else none)))))) else none)))))
theorem t_X5_pace {N : Nat} {ρ : Nat} {δ : Nat} {h : xm_H} {w : Int32 × xm_H}  (hS : xS ρ δ h) (hf : f_X5_pace N δ h = some w) : xm_Rn xX 8 45 [.ref 161] h (xji w.1) w.2 ∧ xS ρ δ w.2 := by
  refine xt_mk (φ := fun h => xS ρ δ h) (M := xM_X5_pace) (ls := [some (.ref 161), none]) rfl (Nat.le_of_ble_eq_true rfl) rfl (fun Q hQ => ?_)
  unfold f_X5_pace at hf
  refine xw_G (pc' := 1) (st' := [.ref 161]) rfl rfl trivial ?_
  refine xw_gr rfl (xkf (xs_k hS rfl rfl : xm_k h 161 = (6, 0))) (xs_r hS rfl) ?_
  refine xb_e hf (fun v1 h2 e3 hf => ?_)
  refine xw_V (v := none) rfl rfl (xkf (xs_k hS rfl rfl : xm_k h 162 = (10, 0))) (Nat.le_of_ble_eq_true rfl) (Nat.le_of_ble_eq_true rfl) (xm_Rn_le (Nat.le_of_ble_eq_true rfl) (t_X9_advance  hS e3).1) ?_
  have hS := (t_X9_advance  hS e3).2
  show xm_W _ _ _ 7 _ [] _
  refine xw_G (pc' := 8) (st' := [.ref 161]) rfl rfl trivial ?_
  refine xb_e hf (fun v4 h5 e6 hf => ?_)
  refine xw_V (v := some (.int v4)) rfl rfl (xkf (xs_k hS rfl rfl : xm_k h2 161 = (6, 0))) (Nat.le_of_ble_eq_true rfl) (Nat.le_of_ble_eq_true rfl) (xm_Rn_le (Nat.le_of_ble_eq_true rfl) (t_X5_isCampaign  hS e6).1) ?_
  have hS := (t_X5_isCampaign  hS e6).2
  show xm_W _ _ _ 11 _ [.int v4] _
  refine xj_if_ne rfl hf (fun hc7 hf => ?_) (fun hc7 hf => ?_)
  · refine xw_G (pc' := 15) (st' := [.int (0 : Int32)]) rfl rfl trivial ?_
    exact xr_i (inj := xji) rfl rfl rfl rfl hf hQ hS
  · refine xw_G (pc' := 17) (st' := [.ref 161]) rfl rfl trivial ?_
    refine xw_gr rfl (xkf (xs_k hS rfl rfl : xm_k h5 161 = (6, 0))) (xs_r hS rfl) ?_
    refine xb_e hf (fun v8 h9 e10 hf => ?_)
    refine xw_V (v := none) rfl rfl (xkf (xs_k hS rfl rfl : xm_k h5 162 = (10, 0))) (Nat.le_of_ble_eq_true rfl) (Nat.le_of_ble_eq_true rfl) (xm_Rn_le (Nat.le_of_ble_eq_true rfl) (t_X9_advance  hS e10).1) ?_
    have hS := (t_X9_advance  hS e10).2
    show xm_W _ _ _ 23 _ [] _
    refine xw_G (pc' := 24) (st' := [.ref 161]) rfl rfl trivial ?_
    refine xw_gr rfl (xkf (xs_k hS rfl rfl : xm_k h9 161 = (6, 0))) (xs_del hS) ?_
    refine xw_gr rfl (xkf (xsR0 hS (xs_D hS))) (xsRr6 hS (xs_D hS)) ?_
    refine xw_G (pc' := 31) (st' := [.ref 161, .ref (δ + 9)]) rfl rfl trivial ?_
    refine xw_G (pc' := 34) (st' := [.int (xm_i h9 161 2), .ref (δ + 9)]) rfl rfl (xkf (xs_k hS rfl rfl : xm_k h9 161 = (6, 0))) ?_
    refine xg_e hf (fun hg11 hf => ?_)
    refine xa_ar (b := (δ + 10 + Int32.toNatClampNeg (xm_i h9 161 2))) rfl (xkf (xsR9 hS (xs_D hS))) (xkn (xsR9 hS (xs_D hS))) hg11 (xsCam hS (xs_D hS) hg11) ?_
    refine xw_G (pc' := 36) (ls' := [some (.ref 161), some (.ref (δ + 10 + Int32.toNatClampNeg (xm_i h9 161 2)))]) (st' := []) rfl rfl (Nat.le_of_ble_eq_true rfl) ?_
    refine xw_G (pc' := 37) (st' := [.ref 161]) rfl rfl trivial ?_
    refine xw_gr rfl (xkf (xs_k hS rfl rfl : xm_k h9 161 = (6, 0))) (xs_r hS rfl) ?_
    refine xw_G (pc' := 42) (st' := [.ref 23, .ref 162]) rfl rfl trivial ?_
    refine xb_e hf (fun v12 h13 e14 hf => ?_)
    refine xw_V (v := some (.int v12)) rfl rfl (xkf (xs_k hS rfl rfl : xm_k h9 162 = (10, 0))) (Nat.le_of_ble_eq_true rfl) (Nat.le_of_ble_eq_true rfl) (xm_Rn_le (Nat.le_of_ble_eq_true rfl) (t_X9_spells  hS e14).1) ?_
    have hS := (t_X9_spells  hS e14).2
    show xm_W _ _ _ 45 _ [.int v12] _
    refine xj_if_eq rfl hf (fun hc15 hf => ?_) (fun hc15 hf => ?_)
    · refine xw_G (pc' := 57) (st' := [.ref 161]) rfl rfl trivial ?_
      refine xw_gr rfl (xkf (xs_k hS rfl rfl : xm_k h13 161 = (6, 0))) (xs_r hS rfl) ?_
      refine xw_G (pc' := 62) (st' := [.ref 25, .ref 162]) rfl rfl trivial ?_
      refine xb_e hf (fun v16 h17 e18 hf => ?_)
      refine xw_V (v := some (.int v16)) rfl rfl (xkf (xs_k hS rfl rfl : xm_k h13 162 = (10, 0))) (Nat.le_of_ble_eq_true rfl) (Nat.le_of_ble_eq_true rfl) (xm_Rn_le (Nat.le_of_ble_eq_true rfl) (t_X9_spells  hS e18).1) ?_
      have hS := (t_X9_spells  hS e18).2
      show xm_W _ _ _ 65 _ [.int v16] _
      refine xj_if_eq rfl hf (fun hc19 hf => ?_) (fun hc19 hf => ?_)
      · refine xw_G (pc' := 77) (st' := [.ref 161]) rfl rfl trivial ?_
        refine xw_gr rfl (xkf (xs_k hS rfl rfl : xm_k h17 161 = (6, 0))) (xs_r hS rfl) ?_
        refine xw_G (pc' := 82) (st' := [.ref 27, .ref 162]) rfl rfl trivial ?_
        refine xb_e hf (fun v20 h21 e22 hf => ?_)
        refine xw_V (v := some (.int v20)) rfl rfl (xkf (xs_k hS rfl rfl : xm_k h17 162 = (10, 0))) (Nat.le_of_ble_eq_true rfl) (Nat.le_of_ble_eq_true rfl) (xm_Rn_le (Nat.le_of_ble_eq_true rfl) (t_X9_spells  hS e22).1) ?_
        have hS := (t_X9_spells  hS e22).2
        show xm_W _ _ _ 85 _ [.int v20] _
        refine xj_if_eq rfl hf (fun hc23 hf => ?_) (fun hc23 hf => ?_)
        · refine xw_G (pc' := 97) (st' := [.ref 161]) rfl rfl trivial ?_
          refine xb_e hf (fun v24 h25 e26 hf => ?_)
          refine xw_V (v := some (.int v24)) rfl rfl (xkf (xs_k hS rfl rfl : xm_k h21 161 = (6, 0))) (Nat.le_of_ble_eq_true rfl) (Nat.le_of_ble_eq_true rfl) (xm_Rn_le (Nat.le_of_ble_eq_true rfl) (t_X5_unexpected  hS e26).1) ?_
          have hS := (t_X5_unexpected  hS e26).2
          show xm_W _ _ _ 100 _ [.int v24] _
          refine xg_e hf (fun hg27 hf => ?_)
          exact xr_i (inj := xji) rfl rfl (xnar_z hg27).1 rfl hf hQ hS
        · refine xw_G (pc' := 89) (st' := [.ref (δ + 10 + Int32.toNatClampNeg (xm_i h9 161 2))]) rfl rfl trivial ?_
          refine xw_G (pc' := 90) (st' := [.int (2 : Int32), .ref (δ + 10 + Int32.toNatClampNeg (xm_i h9 161 2))]) rfl rfl trivial ?_
          refine xp_i rfl (xkf (xsC hS (xIsC_mk (j := (xm_i h9 161 2)) (xs_D hS) hg11))) ((xIsC_mk (j := (xm_i h9 161 2)) (xs_D hS) hg11).ge) hf (fun h28 e29 hf => ?_)
          have hS := xS_si hS e29
          refine xw_G (pc' := 101) (st' := []) rfl rfl trivial ?_
          refine xw_G (pc' := 102) (st' := [.ref 161]) rfl rfl trivial ?_
          refine xw_gr rfl (xkf (xs_k hS rfl rfl : xm_k h28 161 = (6, 0))) (xs_r hS rfl) ?_
          refine xb_e hf (fun v30 h31 e32 hf => ?_)
          refine xw_V (v := none) rfl rfl (xkf (xs_k hS rfl rfl : xm_k h28 162 = (10, 0))) (Nat.le_of_ble_eq_true rfl) (Nat.le_of_ble_eq_true rfl) (xm_Rn_le (Nat.le_of_ble_eq_true rfl) (t_X9_advance  hS e32).1) ?_
          have hS := (t_X9_advance  hS e32).2
          show xm_W _ _ _ 108 _ [] _
          refine xw_G (pc' := 109) (st' := [.ref 161]) rfl rfl trivial ?_
          refine xb_e hf (fun v33 h34 e35 hf => ?_)
          refine xw_V (v := some (.int v33)) rfl rfl (xkf (xs_k hS rfl rfl : xm_k h31 161 = (6, 0))) (Nat.le_of_ble_eq_true rfl) (Nat.le_of_ble_eq_true rfl) (xm_Rn_le (Nat.le_of_ble_eq_true rfl) (t_X5_takeSemicolon  hS e35).1) ?_
          have hS := (t_X5_takeSemicolon  hS e35).2
          show xm_W _ _ _ 112 _ [.int v33] _
          refine xg_e hf (fun hg36 hf => ?_)
          exact xr_i (inj := xji) rfl rfl (xnar_z hg36).1 rfl hf hQ hS
      · refine xw_G (pc' := 69) (st' := [.ref (δ + 10 + Int32.toNatClampNeg (xm_i h9 161 2))]) rfl rfl trivial ?_
        refine xw_G (pc' := 70) (st' := [.int (1 : Int32), .ref (δ + 10 + Int32.toNatClampNeg (xm_i h9 161 2))]) rfl rfl trivial ?_
        refine xp_i rfl (xkf (xsC hS (xIsC_mk (j := (xm_i h9 161 2)) (xs_D hS) hg11))) ((xIsC_mk (j := (xm_i h9 161 2)) (xs_D hS) hg11).ge) hf (fun h37 e38 hf => ?_)
        have hS := xS_si hS e38
        refine xw_G (pc' := 101) (st' := []) rfl rfl trivial ?_
        refine xw_G (pc' := 102) (st' := [.ref 161]) rfl rfl trivial ?_
        refine xw_gr rfl (xkf (xs_k hS rfl rfl : xm_k h37 161 = (6, 0))) (xs_r hS rfl) ?_
        refine xb_e hf (fun v39 h40 e41 hf => ?_)
        refine xw_V (v := none) rfl rfl (xkf (xs_k hS rfl rfl : xm_k h37 162 = (10, 0))) (Nat.le_of_ble_eq_true rfl) (Nat.le_of_ble_eq_true rfl) (xm_Rn_le (Nat.le_of_ble_eq_true rfl) (t_X9_advance  hS e41).1) ?_
        have hS := (t_X9_advance  hS e41).2
        show xm_W _ _ _ 108 _ [] _
        refine xw_G (pc' := 109) (st' := [.ref 161]) rfl rfl trivial ?_
        refine xb_e hf (fun v42 h43 e44 hf => ?_)
        refine xw_V (v := some (.int v42)) rfl rfl (xkf (xs_k hS rfl rfl : xm_k h40 161 = (6, 0))) (Nat.le_of_ble_eq_true rfl) (Nat.le_of_ble_eq_true rfl) (xm_Rn_le (Nat.le_of_ble_eq_true rfl) (t_X5_takeSemicolon  hS e44).1) ?_
        have hS := (t_X5_takeSemicolon  hS e44).2
        show xm_W _ _ _ 112 _ [.int v42] _
        refine xg_e hf (fun hg45 hf => ?_)
        exact xr_i (inj := xji) rfl rfl (xnar_z hg45).1 rfl hf hQ hS
    · refine xw_G (pc' := 49) (st' := [.ref (δ + 10 + Int32.toNatClampNeg (xm_i h9 161 2))]) rfl rfl trivial ?_
      refine xw_G (pc' := 50) (st' := [.int (0 : Int32), .ref (δ + 10 + Int32.toNatClampNeg (xm_i h9 161 2))]) rfl rfl trivial ?_
      refine xp_i rfl (xkf (xsC hS (xIsC_mk (j := (xm_i h9 161 2)) (xs_D hS) hg11))) ((xIsC_mk (j := (xm_i h9 161 2)) (xs_D hS) hg11).ge) hf (fun h46 e47 hf => ?_)
      have hS := xS_si hS e47
      refine xw_G (pc' := 101) (st' := []) rfl rfl trivial ?_
      refine xw_G (pc' := 102) (st' := [.ref 161]) rfl rfl trivial ?_
      refine xw_gr rfl (xkf (xs_k hS rfl rfl : xm_k h46 161 = (6, 0))) (xs_r hS rfl) ?_
      refine xb_e hf (fun v48 h49 e50 hf => ?_)
      refine xw_V (v := none) rfl rfl (xkf (xs_k hS rfl rfl : xm_k h46 162 = (10, 0))) (Nat.le_of_ble_eq_true rfl) (Nat.le_of_ble_eq_true rfl) (xm_Rn_le (Nat.le_of_ble_eq_true rfl) (t_X9_advance  hS e50).1) ?_
      have hS := (t_X9_advance  hS e50).2
      show xm_W _ _ _ 108 _ [] _
      refine xw_G (pc' := 109) (st' := [.ref 161]) rfl rfl trivial ?_
      refine xb_e hf (fun v51 h52 e53 hf => ?_)
      refine xw_V (v := some (.int v51)) rfl rfl (xkf (xs_k hS rfl rfl : xm_k h49 161 = (6, 0))) (Nat.le_of_ble_eq_true rfl) (Nat.le_of_ble_eq_true rfl) (xm_Rn_le (Nat.le_of_ble_eq_true rfl) (t_X5_takeSemicolon  hS e53).1) ?_
      have hS := (t_X5_takeSemicolon  hS e53).2
      show xm_W _ _ _ 112 _ [.int v51] _
      refine xg_e hf (fun hg54 hf => ?_)
      exact xr_i (inj := xji) rfl rfl (xnar_z hg54).1 rfl hf hQ hS
def f_X5_apart (N : Nat) (δ : Nat) (h : xm_H) : Option (Int32 × xm_H) := (if (xm_i h δ 8) < (8 : Int32) then (xb (f_X9_advance N h) fun v2 h3 => (xb (f_X5_isCampaign N δ h3) fun v5 h6 => (if v5 = 0 then (some ((0 : Int32), h6)) else (xb (f_X9_advance N h6) fun v9 h10 => (xb (f_X5_isCampaign N δ h10) fun v12 h13 => (if v12 = 0 then (some ((0 : Int32), h13)) else (if (xm_i h13 161 2) = (xm_i h6 161 2) then (xb (f_X5_fail (4 : Int32) h13) fun v17 h18 => (if v17 = 0 ∨ v17 = 1 then (some (v17, h18)) else none)) else (xb (f_X9_advance N h13) fun v21 h22 => (if xin (xm_i h6 161 2) 8 then (xl (xm_si h22 (δ + 10 + Int32.toNatClampNeg (xm_i h6 161 2)) 7 ((xm_i h22 (δ + 10 + Int32.toNatClampNeg (xm_i h6 161 2)) 7) ||| ((1 : Int32) <<< ((xm_i h22 161 2) &&& 31)))) fun h25 => (if xin (xm_i h25 161 2) 8 then (xl (xm_si h25 (δ + 10 + Int32.toNatClampNeg (xm_i h25 161 2)) 7 ((xm_i h25 (δ + 10 + Int32.toNatClampNeg (xm_i h25 161 2)) 7) ||| ((1 : Int32) <<< ((xm_i h6 161 2) &&& 31)))) fun h28 => (xl (xm_si h28 δ 8 ((xm_i h28 δ 8) + (1 : Int32))) fun h30 => (xb (f_X5_takeSemicolon N h30) fun v32 h33 => (if v32 = 0 ∨ v32 = 1 then (some (v32, h33)) else none)))) else none)) else none))))))))) else (xb (f_X5_fail (5 : Int32) h) fun v36 h37 => (if v36 = 0 ∨ v36 = 1 then (some (v36, h37)) else none)))
theorem t_X5_apart {N : Nat} {ρ : Nat} {δ : Nat} {h : xm_H} {w : Int32 × xm_H}  (hS : xS ρ δ h) (hf : f_X5_apart N δ h = some w) : xm_Rn xX 8 46 [.ref 161] h (xji w.1) w.2 ∧ xS ρ δ w.2 := by
  refine xt_mk (φ := fun h => xS ρ δ h) (M := xM_X5_apart) (ls := [some (.ref 161), none]) rfl (Nat.le_of_ble_eq_true rfl) rfl (fun Q hQ => ?_)
  unfold f_X5_apart at hf
  refine xw_G (pc' := 1) (st' := [.ref 161]) rfl rfl trivial ?_
  refine xw_gr rfl (xkf (xs_k hS rfl rfl : xm_k h 161 = (6, 0))) (xs_del hS) ?_
  refine xw_G (pc' := 7) (st' := [.int (xm_i h δ 8)]) rfl rfl (xkf (xsR0 hS (xs_D hS))) ?_
  refine xw_G (pc' := 9) (st' := [.int (8 : Int32), .int (xm_i h δ 8)]) rfl rfl trivial ?_
  refine xj_ic_lt rfl hf (fun hc1 hf => ?_) (fun hc1 hf => ?_)
  · refine xw_G (pc' := 19) (st' := [.ref 161]) rfl rfl trivial ?_
    refine xw_gr rfl (xkf (xs_k hS rfl rfl : xm_k h 161 = (6, 0))) (xs_r hS rfl) ?_
    refine xb_e hf (fun v2 h3 e4 hf => ?_)
    refine xw_V (v := none) rfl rfl (xkf (xs_k hS rfl rfl : xm_k h 162 = (10, 0))) (Nat.le_of_ble_eq_true rfl) (Nat.le_of_ble_eq_true rfl) (xm_Rn_le (Nat.le_of_ble_eq_true rfl) (t_X9_advance  hS e4).1) ?_
    have hS := (t_X9_advance  hS e4).2
    show xm_W _ _ _ 25 _ [] _
    refine xw_G (pc' := 26) (st' := [.ref 161]) rfl rfl trivial ?_
    refine xb_e hf (fun v5 h6 e7 hf => ?_)
    refine xw_V (v := some (.int v5)) rfl rfl (xkf (xs_k hS rfl rfl : xm_k h3 161 = (6, 0))) (Nat.le_of_ble_eq_true rfl) (Nat.le_of_ble_eq_true rfl) (xm_Rn_le (Nat.le_of_ble_eq_true rfl) (t_X5_isCampaign  hS e7).1) ?_
    have hS := (t_X5_isCampaign  hS e7).2
    show xm_W _ _ _ 29 _ [.int v5] _
    refine xj_if_ne rfl hf (fun hc8 hf => ?_) (fun hc8 hf => ?_)
    · refine xw_G (pc' := 33) (st' := [.int (0 : Int32)]) rfl rfl trivial ?_
      exact xr_i (inj := xji) rfl rfl rfl rfl hf hQ hS
    · refine xw_G (pc' := 35) (st' := [.ref 161]) rfl rfl trivial ?_
      refine xw_G (pc' := 38) (st' := [.int (xm_i h6 161 2)]) rfl rfl (xkf (xs_k hS rfl rfl : xm_k h6 161 = (6, 0))) ?_
      refine xw_G (pc' := 39) (ls' := [some (.ref 161), some (.int (xm_i h6 161 2))]) (st' := []) rfl rfl (Nat.le_of_ble_eq_true rfl) ?_
      refine xw_G (pc' := 40) (st' := [.ref 161]) rfl rfl trivial ?_
      refine xw_gr rfl (xkf (xs_k hS rfl rfl : xm_k h6 161 = (6, 0))) (xs_r hS rfl) ?_
      refine xb_e hf (fun v9 h10 e11 hf => ?_)
      refine xw_V (v := none) rfl rfl (xkf (xs_k hS rfl rfl : xm_k h6 162 = (10, 0))) (Nat.le_of_ble_eq_true rfl) (Nat.le_of_ble_eq_true rfl) (xm_Rn_le (Nat.le_of_ble_eq_true rfl) (t_X9_advance  hS e11).1) ?_
      have hS := (t_X9_advance  hS e11).2
      show xm_W _ _ _ 46 _ [] _
      refine xw_G (pc' := 47) (st' := [.ref 161]) rfl rfl trivial ?_
      refine xb_e hf (fun v12 h13 e14 hf => ?_)
      refine xw_V (v := some (.int v12)) rfl rfl (xkf (xs_k hS rfl rfl : xm_k h10 161 = (6, 0))) (Nat.le_of_ble_eq_true rfl) (Nat.le_of_ble_eq_true rfl) (xm_Rn_le (Nat.le_of_ble_eq_true rfl) (t_X5_isCampaign  hS e14).1) ?_
      have hS := (t_X5_isCampaign  hS e14).2
      show xm_W _ _ _ 50 _ [.int v12] _
      refine xj_if_ne rfl hf (fun hc15 hf => ?_) (fun hc15 hf => ?_)
      · refine xw_G (pc' := 54) (st' := [.int (0 : Int32)]) rfl rfl trivial ?_
        exact xr_i (inj := xji) rfl rfl rfl rfl hf hQ hS
      · refine xw_G (pc' := 56) (st' := [.ref 161]) rfl rfl trivial ?_
        refine xw_G (pc' := 59) (st' := [.int (xm_i h13 161 2)]) rfl rfl (xkf (xs_k hS rfl rfl : xm_k h13 161 = (6, 0))) ?_
        refine xw_G (pc' := 60) (st' := [.int (xm_i h6 161 2), .int (xm_i h13 161 2)]) rfl rfl trivial ?_
        refine xj_ic_ne rfl hf (fun hc16 hf => ?_) (fun hc16 hf => ?_)
        · refine xw_G (pc' := 64) (st' := [.ref 161]) rfl rfl trivial ?_
          refine xw_G (pc' := 65) (st' := [.int (4 : Int32), .ref 161]) rfl rfl trivial ?_
          refine xb_e hf (fun v17 h18 e19 hf => ?_)
          refine xw_V (v := some (.int v17)) rfl rfl (xkf (xs_k hS rfl rfl : xm_k h13 161 = (6, 0))) (Nat.le_of_ble_eq_true rfl) (Nat.le_of_ble_eq_true rfl) (xm_Rn_le (Nat.le_of_ble_eq_true rfl) (t_X5_fail  hS e19).1) ?_
          have hS := (t_X5_fail  hS e19).2
          show xm_W _ _ _ 68 _ [.int v17] _
          refine xg_e hf (fun hg20 hf => ?_)
          exact xr_i (inj := xji) rfl rfl (xnar_z hg20).1 rfl hf hQ hS
        · refine xw_G (pc' := 70) (st' := [.ref 161]) rfl rfl trivial ?_
          refine xw_gr rfl (xkf (xs_k hS rfl rfl : xm_k h13 161 = (6, 0))) (xs_r hS rfl) ?_
          refine xb_e hf (fun v21 h22 e23 hf => ?_)
          refine xw_V (v := none) rfl rfl (xkf (xs_k hS rfl rfl : xm_k h13 162 = (10, 0))) (Nat.le_of_ble_eq_true rfl) (Nat.le_of_ble_eq_true rfl) (xm_Rn_le (Nat.le_of_ble_eq_true rfl) (t_X9_advance  hS e23).1) ?_
          have hS := (t_X9_advance  hS e23).2
          show xm_W _ _ _ 76 _ [] _
          refine xw_G (pc' := 77) (st' := [.ref 161]) rfl rfl trivial ?_
          refine xw_gr rfl (xkf (xs_k hS rfl rfl : xm_k h22 161 = (6, 0))) (xs_del hS) ?_
          refine xw_gr rfl (xkf (xsR0 hS (xs_D hS))) (xsRr6 hS (xs_D hS)) ?_
          refine xw_G (pc' := 84) (st' := [.int (xm_i h6 161 2), .ref (δ + 9)]) rfl rfl trivial ?_
          refine xg_e hf (fun hg24 hf => ?_)
          refine xa_ar (b := (δ + 10 + Int32.toNatClampNeg (xm_i h6 161 2))) rfl (xkf (xsR9 hS (xs_D hS))) (xkn (xsR9 hS (xs_D hS))) hg24 (xsCam hS (xs_D hS) hg24) ?_
          refine xw_G (pc' := 86) (st' := [.ref (δ + 10 + Int32.toNatClampNeg (xm_i h6 161 2)), .ref (δ + 10 + Int32.toNatClampNeg (xm_i h6 161 2))]) rfl rfl rfl ?_
          refine xw_G (pc' := 89) (st' := [.int (xm_i h22 (δ + 10 + Int32.toNatClampNeg (xm_i h6 161 2)) 7), .ref (δ + 10 + Int32.toNatClampNeg (xm_i h6 161 2))]) rfl rfl (xkf (xsC hS (xIsC_mk (j := (xm_i h6 161 2)) (xs_D hS) hg24))) ?_
          refine xw_G (pc' := 90) (st' := [.int (1 : Int32), .int (xm_i h22 (δ + 10 + Int32.toNatClampNeg (xm_i h6 161 2)) 7), .ref (δ + 10 + Int32.toNatClampNeg (xm_i h6 161 2))]) rfl rfl trivial ?_
          refine xw_G (pc' := 91) (st' := [.ref 161, .int (1 : Int32), .int (xm_i h22 (δ + 10 + Int32.toNatClampNeg (xm_i h6 161 2)) 7), .ref (δ + 10 + Int32.toNatClampNeg (xm_i h6 161 2))]) rfl rfl trivial ?_
          refine xw_G (pc' := 94) (st' := [.int (xm_i h22 161 2), .int (1 : Int32), .int (xm_i h22 (δ + 10 + Int32.toNatClampNeg (xm_i h6 161 2)) 7), .ref (δ + 10 + Int32.toNatClampNeg (xm_i h6 161 2))]) rfl rfl (xkf (xs_k hS rfl rfl : xm_k h22 161 = (6, 0))) ?_
          refine xw_G (pc' := 95) (st' := [.int ((1 : Int32) <<< ((xm_i h22 161 2) &&& 31)), .int (xm_i h22 (δ + 10 + Int32.toNatClampNeg (xm_i h6 161 2)) 7), .ref (δ + 10 + Int32.toNatClampNeg (xm_i h6 161 2))]) rfl rfl trivial ?_
          refine xw_G (pc' := 96) (st' := [.int ((xm_i h22 (δ + 10 + Int32.toNatClampNeg (xm_i h6 161 2)) 7) ||| ((1 : Int32) <<< ((xm_i h22 161 2) &&& 31))), .ref (δ + 10 + Int32.toNatClampNeg (xm_i h6 161 2))]) rfl rfl trivial ?_
          refine xp_i rfl (xkf (xsC hS (xIsC_mk (j := (xm_i h6 161 2)) (xs_D hS) hg24))) ((xIsC_mk (j := (xm_i h6 161 2)) (xs_D hS) hg24).ge) hf (fun h25 e26 hf => ?_)
          have hS := xS_si hS e26
          refine xw_G (pc' := 100) (st' := [.ref 161]) rfl rfl trivial ?_
          refine xw_gr rfl (xkf (xs_k hS rfl rfl : xm_k h25 161 = (6, 0))) (xs_del hS) ?_
          refine xw_gr rfl (xkf (xsR0 hS (xs_D hS))) (xsRr6 hS (xs_D hS)) ?_
          refine xw_G (pc' := 107) (st' := [.ref 161, .ref (δ + 9)]) rfl rfl trivial ?_
          refine xw_G (pc' := 110) (st' := [.int (xm_i h25 161 2), .ref (δ + 9)]) rfl rfl (xkf (xs_k hS rfl rfl : xm_k h25 161 = (6, 0))) ?_
          refine xg_e hf (fun hg27 hf => ?_)
          refine xa_ar (b := (δ + 10 + Int32.toNatClampNeg (xm_i h25 161 2))) rfl (xkf (xsR9 hS (xs_D hS))) (xkn (xsR9 hS (xs_D hS))) hg27 (xsCam hS (xs_D hS) hg27) ?_
          refine xw_G (pc' := 112) (st' := [.ref (δ + 10 + Int32.toNatClampNeg (xm_i h25 161 2)), .ref (δ + 10 + Int32.toNatClampNeg (xm_i h25 161 2))]) rfl rfl rfl ?_
          refine xw_G (pc' := 115) (st' := [.int (xm_i h25 (δ + 10 + Int32.toNatClampNeg (xm_i h25 161 2)) 7), .ref (δ + 10 + Int32.toNatClampNeg (xm_i h25 161 2))]) rfl rfl (xkf (xsC hS (xIsC_mk (j := (xm_i h25 161 2)) (xs_D hS) hg27))) ?_
          refine xw_G (pc' := 116) (st' := [.int (1 : Int32), .int (xm_i h25 (δ + 10 + Int32.toNatClampNeg (xm_i h25 161 2)) 7), .ref (δ + 10 + Int32.toNatClampNeg (xm_i h25 161 2))]) rfl rfl trivial ?_
          refine xw_G (pc' := 117) (st' := [.int (xm_i h6 161 2), .int (1 : Int32), .int (xm_i h25 (δ + 10 + Int32.toNatClampNeg (xm_i h25 161 2)) 7), .ref (δ + 10 + Int32.toNatClampNeg (xm_i h25 161 2))]) rfl rfl trivial ?_
          refine xw_G (pc' := 118) (st' := [.int ((1 : Int32) <<< ((xm_i h6 161 2) &&& 31)), .int (xm_i h25 (δ + 10 + Int32.toNatClampNeg (xm_i h25 161 2)) 7), .ref (δ + 10 + Int32.toNatClampNeg (xm_i h25 161 2))]) rfl rfl trivial ?_
          refine xw_G (pc' := 119) (st' := [.int ((xm_i h25 (δ + 10 + Int32.toNatClampNeg (xm_i h25 161 2)) 7) ||| ((1 : Int32) <<< ((xm_i h6 161 2) &&& 31))), .ref (δ + 10 + Int32.toNatClampNeg (xm_i h25 161 2))]) rfl rfl trivial ?_
          refine xp_i rfl (xkf (xsC hS (xIsC_mk (j := (xm_i h25 161 2)) (xs_D hS) hg27))) ((xIsC_mk (j := (xm_i h25 161 2)) (xs_D hS) hg27).ge) hf (fun h28 e29 hf => ?_)
          have hS := xS_si hS e29
          refine xw_G (pc' := 123) (st' := [.ref 161]) rfl rfl trivial ?_
          refine xw_gr rfl (xkf (xs_k hS rfl rfl : xm_k h28 161 = (6, 0))) (xs_del hS) ?_
          refine xw_G (pc' := 127) (st' := [.ref δ, .ref δ]) rfl rfl rfl ?_
          refine xw_G (pc' := 130) (st' := [.int (xm_i h28 δ 8), .ref δ]) rfl rfl (xkf (xsR0 hS (xs_D hS))) ?_
          refine xw_G (pc' := 131) (st' := [.int (1 : Int32), .int (xm_i h28 δ 8), .ref δ]) rfl rfl trivial ?_
          refine xw_G (pc' := 132) (st' := [.int ((xm_i h28 δ 8) + (1 : Int32)), .ref δ]) rfl rfl trivial ?_
          refine xp_i rfl (xkf (xsR0 hS (xs_D hS))) ((xs_D hS).ge 0) hf (fun h30 e31 hf => ?_)
          have hS := xS_si hS e31
          refine xw_G (pc' := 136) (st' := [.ref 161]) rfl rfl trivial ?_
          refine xb_e hf (fun v32 h33 e34 hf => ?_)
          refine xw_V (v := some (.int v32)) rfl rfl (xkf (xs_k hS rfl rfl : xm_k h30 161 = (6, 0))) (Nat.le_of_ble_eq_true rfl) (Nat.le_of_ble_eq_true rfl) (xm_Rn_le (Nat.le_of_ble_eq_true rfl) (t_X5_takeSemicolon  hS e34).1) ?_
          have hS := (t_X5_takeSemicolon  hS e34).2
          show xm_W _ _ _ 139 _ [.int v32] _
          refine xg_e hf (fun hg35 hf => ?_)
          exact xr_i (inj := xji) rfl rfl (xnar_z hg35).1 rfl hf hQ hS
  · refine xw_G (pc' := 13) (st' := [.ref 161]) rfl rfl trivial ?_
    refine xw_G (pc' := 14) (st' := [.int (5 : Int32), .ref 161]) rfl rfl trivial ?_
    refine xb_e hf (fun v36 h37 e38 hf => ?_)
    refine xw_V (v := some (.int v36)) rfl rfl (xkf (xs_k hS rfl rfl : xm_k h 161 = (6, 0))) (Nat.le_of_ble_eq_true rfl) (Nat.le_of_ble_eq_true rfl) (xm_Rn_le (Nat.le_of_ble_eq_true rfl) (t_X5_fail  hS e38).1) ?_
    have hS := (t_X5_fail  hS e38).2
    show xm_W _ _ _ 17 _ [.int v36] _
    refine xg_e hf (fun hg39 hf => ?_)
    exact xr_i (inj := xji) rfl rfl (xnar_z hg39).1 rfl hf hQ hS
def f_X5_statement (N : Nat) (δ : Nat) (h : xm_H) : Option (Int32 × xm_H) := (xb (f_X9_spells N 9 h) fun v1 h2 => (if v1 = 0 then (xb (f_X9_spells N 11 h2) fun v5 h6 => (if v5 = 0 then (xb (f_X9_spells N 13 h6) fun v9 h10 => (if v9 = 0 then (xb (f_X9_spells N 15 h10) fun v13 h14 => (if v13 = 0 then (xb (f_X9_spells N 19 h14) fun v17 h18 => (if v17 = 0 then (xb (f_X9_spells N 21 h18) fun v21 h22 => (if v21 = 0 then (xb (f_X9_spells N 29 h22) fun v25 h26 => (if v25 = 0 then (xb (f_X5_unexpected h26) fun v29 h30 => (if v29 = 0 ∨ v29 = 1 then (some (v29, h30)) else none)) else (xb (f_X5_apart N δ h26) fun v33 h34 => (if v33 = 0 ∨ v33 = 1 then (some (v33, h34)) else none)))) else (xb (f_X5_pace N δ h22) fun v37 h38 => (if v37 = 0 ∨ v37 = 1 then (some (v37, h38)) else none)))) else (xb (f_X5_newCampaign N δ h18) fun v41 h42 => (if v41 = 0 ∨ v41 = 1 then (some (v41, h42)) else none)))) else (xb (f_X5_newTag N δ h14) fun v45 h46 => (if v45 = 0 ∨ v45 = 1 then (some (v45, h46)) else none)))) else (xb (f_X5_factors N δ h10) fun v49 h50 => (if v49 = 0 ∨ v49 = 1 then (some (v49, h50)) else none)))) else (xb (f_X5_attribution N δ h6) fun v53 h54 => (if v53 = 0 ∨ v53 = 1 then (some (v53, h54)) else none)))) else (xb (f_X5_day N δ h2) fun v57 h58 => (if v57 = 0 ∨ v57 = 1 then (some (v57, h58)) else none))))
theorem t_X5_statement {N : Nat} {ρ : Nat} {δ : Nat} {h : xm_H} {w : Int32 × xm_H}  (hS : xS ρ δ h) (hf : f_X5_statement N δ h = some w) : xm_Rn xX 9 38 [.ref 161] h (xji w.1) w.2 ∧ xS ρ δ w.2 := by
  refine xt_mk (φ := fun h => xS ρ δ h) (M := xM_X5_statement) (ls := [some (.ref 161)]) rfl (Nat.le_of_ble_eq_true rfl) rfl (fun Q hQ => ?_)
  unfold f_X5_statement at hf
  refine xw_G (pc' := 1) (st' := [.ref 161]) rfl rfl trivial ?_
  refine xw_gr rfl (xkf (xs_k hS rfl rfl : xm_k h 161 = (6, 0))) (xs_r hS rfl) ?_
  refine xw_G (pc' := 6) (st' := [.ref 9, .ref 162]) rfl rfl trivial ?_
  refine xb_e hf (fun v1 h2 e3 hf => ?_)
  refine xw_V (v := some (.int v1)) rfl rfl (xkf (xs_k hS rfl rfl : xm_k h 162 = (10, 0))) (Nat.le_of_ble_eq_true rfl) (Nat.le_of_ble_eq_true rfl) (xm_Rn_le (Nat.le_of_ble_eq_true rfl) (t_X9_spells  hS e3).1) ?_
  have hS := (t_X9_spells  hS e3).2
  show xm_W _ _ _ 9 _ [.int v1] _
  refine xj_if_eq rfl hf (fun hc4 hf => ?_) (fun hc4 hf => ?_)
  · refine xw_G (pc' := 18) (st' := [.ref 161]) rfl rfl trivial ?_
    refine xw_gr rfl (xkf (xs_k hS rfl rfl : xm_k h2 161 = (6, 0))) (xs_r hS rfl) ?_
    refine xw_G (pc' := 23) (st' := [.ref 11, .ref 162]) rfl rfl trivial ?_
    refine xb_e hf (fun v5 h6 e7 hf => ?_)
    refine xw_V (v := some (.int v5)) rfl rfl (xkf (xs_k hS rfl rfl : xm_k h2 162 = (10, 0))) (Nat.le_of_ble_eq_true rfl) (Nat.le_of_ble_eq_true rfl) (xm_Rn_le (Nat.le_of_ble_eq_true rfl) (t_X9_spells  hS e7).1) ?_
    have hS := (t_X9_spells  hS e7).2
    show xm_W _ _ _ 26 _ [.int v5] _
    refine xj_if_eq rfl hf (fun hc8 hf => ?_) (fun hc8 hf => ?_)
    · refine xw_G (pc' := 35) (st' := [.ref 161]) rfl rfl trivial ?_
      refine xw_gr rfl (xkf (xs_k hS rfl rfl : xm_k h6 161 = (6, 0))) (xs_r hS rfl) ?_
      refine xw_G (pc' := 40) (st' := [.ref 13, .ref 162]) rfl rfl trivial ?_
      refine xb_e hf (fun v9 h10 e11 hf => ?_)
      refine xw_V (v := some (.int v9)) rfl rfl (xkf (xs_k hS rfl rfl : xm_k h6 162 = (10, 0))) (Nat.le_of_ble_eq_true rfl) (Nat.le_of_ble_eq_true rfl) (xm_Rn_le (Nat.le_of_ble_eq_true rfl) (t_X9_spells  hS e11).1) ?_
      have hS := (t_X9_spells  hS e11).2
      show xm_W _ _ _ 43 _ [.int v9] _
      refine xj_if_eq rfl hf (fun hc12 hf => ?_) (fun hc12 hf => ?_)
      · refine xw_G (pc' := 52) (st' := [.ref 161]) rfl rfl trivial ?_
        refine xw_gr rfl (xkf (xs_k hS rfl rfl : xm_k h10 161 = (6, 0))) (xs_r hS rfl) ?_
        refine xw_G (pc' := 57) (st' := [.ref 15, .ref 162]) rfl rfl trivial ?_
        refine xb_e hf (fun v13 h14 e15 hf => ?_)
        refine xw_V (v := some (.int v13)) rfl rfl (xkf (xs_k hS rfl rfl : xm_k h10 162 = (10, 0))) (Nat.le_of_ble_eq_true rfl) (Nat.le_of_ble_eq_true rfl) (xm_Rn_le (Nat.le_of_ble_eq_true rfl) (t_X9_spells  hS e15).1) ?_
        have hS := (t_X9_spells  hS e15).2
        show xm_W _ _ _ 60 _ [.int v13] _
        refine xj_if_eq rfl hf (fun hc16 hf => ?_) (fun hc16 hf => ?_)
        · refine xw_G (pc' := 69) (st' := [.ref 161]) rfl rfl trivial ?_
          refine xw_gr rfl (xkf (xs_k hS rfl rfl : xm_k h14 161 = (6, 0))) (xs_r hS rfl) ?_
          refine xw_G (pc' := 74) (st' := [.ref 19, .ref 162]) rfl rfl trivial ?_
          refine xb_e hf (fun v17 h18 e19 hf => ?_)
          refine xw_V (v := some (.int v17)) rfl rfl (xkf (xs_k hS rfl rfl : xm_k h14 162 = (10, 0))) (Nat.le_of_ble_eq_true rfl) (Nat.le_of_ble_eq_true rfl) (xm_Rn_le (Nat.le_of_ble_eq_true rfl) (t_X9_spells  hS e19).1) ?_
          have hS := (t_X9_spells  hS e19).2
          show xm_W _ _ _ 77 _ [.int v17] _
          refine xj_if_eq rfl hf (fun hc20 hf => ?_) (fun hc20 hf => ?_)
          · refine xw_G (pc' := 86) (st' := [.ref 161]) rfl rfl trivial ?_
            refine xw_gr rfl (xkf (xs_k hS rfl rfl : xm_k h18 161 = (6, 0))) (xs_r hS rfl) ?_
            refine xw_G (pc' := 91) (st' := [.ref 21, .ref 162]) rfl rfl trivial ?_
            refine xb_e hf (fun v21 h22 e23 hf => ?_)
            refine xw_V (v := some (.int v21)) rfl rfl (xkf (xs_k hS rfl rfl : xm_k h18 162 = (10, 0))) (Nat.le_of_ble_eq_true rfl) (Nat.le_of_ble_eq_true rfl) (xm_Rn_le (Nat.le_of_ble_eq_true rfl) (t_X9_spells  hS e23).1) ?_
            have hS := (t_X9_spells  hS e23).2
            show xm_W _ _ _ 94 _ [.int v21] _
            refine xj_if_eq rfl hf (fun hc24 hf => ?_) (fun hc24 hf => ?_)
            · refine xw_G (pc' := 103) (st' := [.ref 161]) rfl rfl trivial ?_
              refine xw_gr rfl (xkf (xs_k hS rfl rfl : xm_k h22 161 = (6, 0))) (xs_r hS rfl) ?_
              refine xw_G (pc' := 108) (st' := [.ref 29, .ref 162]) rfl rfl trivial ?_
              refine xb_e hf (fun v25 h26 e27 hf => ?_)
              refine xw_V (v := some (.int v25)) rfl rfl (xkf (xs_k hS rfl rfl : xm_k h22 162 = (10, 0))) (Nat.le_of_ble_eq_true rfl) (Nat.le_of_ble_eq_true rfl) (xm_Rn_le (Nat.le_of_ble_eq_true rfl) (t_X9_spells  hS e27).1) ?_
              have hS := (t_X9_spells  hS e27).2
              show xm_W _ _ _ 111 _ [.int v25] _
              refine xj_if_eq rfl hf (fun hc28 hf => ?_) (fun hc28 hf => ?_)
              · refine xw_G (pc' := 120) (st' := [.ref 161]) rfl rfl trivial ?_
                refine xb_e hf (fun v29 h30 e31 hf => ?_)
                refine xw_V (v := some (.int v29)) rfl rfl (xkf (xs_k hS rfl rfl : xm_k h26 161 = (6, 0))) (Nat.le_of_ble_eq_true rfl) (Nat.le_of_ble_eq_true rfl) (xm_Rn_le (Nat.le_of_ble_eq_true rfl) (t_X5_unexpected  hS e31).1) ?_
                have hS := (t_X5_unexpected  hS e31).2
                show xm_W _ _ _ 123 _ [.int v29] _
                refine xg_e hf (fun hg32 hf => ?_)
                exact xr_i (inj := xji) rfl rfl (xnar_z hg32).1 rfl hf hQ hS
              · refine xw_G (pc' := 115) (st' := [.ref 161]) rfl rfl trivial ?_
                refine xb_e hf (fun v33 h34 e35 hf => ?_)
                refine xw_V (v := some (.int v33)) rfl rfl (xkf (xs_k hS rfl rfl : xm_k h26 161 = (6, 0))) (Nat.le_of_ble_eq_true rfl) (Nat.le_of_ble_eq_true rfl) (xm_Rn_le (Nat.le_of_ble_eq_true rfl) (t_X5_apart  hS e35).1) ?_
                have hS := (t_X5_apart  hS e35).2
                show xm_W _ _ _ 118 _ [.int v33] _
                refine xg_e hf (fun hg36 hf => ?_)
                exact xr_i (inj := xji) rfl rfl (xnar_z hg36).1 rfl hf hQ hS
            · refine xw_G (pc' := 98) (st' := [.ref 161]) rfl rfl trivial ?_
              refine xb_e hf (fun v37 h38 e39 hf => ?_)
              refine xw_V (v := some (.int v37)) rfl rfl (xkf (xs_k hS rfl rfl : xm_k h22 161 = (6, 0))) (Nat.le_of_ble_eq_true rfl) (Nat.le_of_ble_eq_true rfl) (xm_Rn_le (Nat.le_of_ble_eq_true rfl) (t_X5_pace  hS e39).1) ?_
              have hS := (t_X5_pace  hS e39).2
              show xm_W _ _ _ 101 _ [.int v37] _
              refine xg_e hf (fun hg40 hf => ?_)
              exact xr_i (inj := xji) rfl rfl (xnar_z hg40).1 rfl hf hQ hS
          · refine xw_G (pc' := 81) (st' := [.ref 161]) rfl rfl trivial ?_
            refine xb_e hf (fun v41 h42 e43 hf => ?_)
            refine xw_V (v := some (.int v41)) rfl rfl (xkf (xs_k hS rfl rfl : xm_k h18 161 = (6, 0))) (Nat.le_of_ble_eq_true rfl) (Nat.le_of_ble_eq_true rfl) (xm_Rn_le (Nat.le_of_ble_eq_true rfl) (t_X5_newCampaign  hS e43).1) ?_
            have hS := (t_X5_newCampaign  hS e43).2
            show xm_W _ _ _ 84 _ [.int v41] _
            refine xg_e hf (fun hg44 hf => ?_)
            exact xr_i (inj := xji) rfl rfl (xnar_z hg44).1 rfl hf hQ hS
        · refine xw_G (pc' := 64) (st' := [.ref 161]) rfl rfl trivial ?_
          refine xb_e hf (fun v45 h46 e47 hf => ?_)
          refine xw_V (v := some (.int v45)) rfl rfl (xkf (xs_k hS rfl rfl : xm_k h14 161 = (6, 0))) (Nat.le_of_ble_eq_true rfl) (Nat.le_of_ble_eq_true rfl) (xm_Rn_le (Nat.le_of_ble_eq_true rfl) (t_X5_newTag  hS e47).1) ?_
          have hS := (t_X5_newTag  hS e47).2
          show xm_W _ _ _ 67 _ [.int v45] _
          refine xg_e hf (fun hg48 hf => ?_)
          exact xr_i (inj := xji) rfl rfl (xnar_z hg48).1 rfl hf hQ hS
      · refine xw_G (pc' := 47) (st' := [.ref 161]) rfl rfl trivial ?_
        refine xb_e hf (fun v49 h50 e51 hf => ?_)
        refine xw_V (v := some (.int v49)) rfl rfl (xkf (xs_k hS rfl rfl : xm_k h10 161 = (6, 0))) (Nat.le_of_ble_eq_true rfl) (Nat.le_of_ble_eq_true rfl) (xm_Rn_le (Nat.le_of_ble_eq_true rfl) (t_X5_factors  hS e51).1) ?_
        have hS := (t_X5_factors  hS e51).2
        show xm_W _ _ _ 50 _ [.int v49] _
        refine xg_e hf (fun hg52 hf => ?_)
        exact xr_i (inj := xji) rfl rfl (xnar_z hg52).1 rfl hf hQ hS
    · refine xw_G (pc' := 30) (st' := [.ref 161]) rfl rfl trivial ?_
      refine xb_e hf (fun v53 h54 e55 hf => ?_)
      refine xw_V (v := some (.int v53)) rfl rfl (xkf (xs_k hS rfl rfl : xm_k h6 161 = (6, 0))) (Nat.le_of_ble_eq_true rfl) (Nat.le_of_ble_eq_true rfl) (xm_Rn_le (Nat.le_of_ble_eq_true rfl) (t_X5_attribution  hS e55).1) ?_
      have hS := (t_X5_attribution  hS e55).2
      show xm_W _ _ _ 33 _ [.int v53] _
      refine xg_e hf (fun hg56 hf => ?_)
      exact xr_i (inj := xji) rfl rfl (xnar_z hg56).1 rfl hf hQ hS
  · refine xw_G (pc' := 13) (st' := [.ref 161]) rfl rfl trivial ?_
    refine xb_e hf (fun v57 h58 e59 hf => ?_)
    refine xw_V (v := some (.int v57)) rfl rfl (xkf (xs_k hS rfl rfl : xm_k h2 161 = (6, 0))) (Nat.le_of_ble_eq_true rfl) (Nat.le_of_ble_eq_true rfl) (xm_Rn_le (Nat.le_of_ble_eq_true rfl) (t_X5_day  hS e59).1) ?_
    have hS := (t_X5_day  hS e59).2
    show xm_W _ _ _ 16 _ [.int v57] _
    refine xg_e hf (fun hg60 hf => ?_)
    exact xr_i (inj := xji) rfl rfl (xnar_z hg60).1 rfl hf hQ hS
def f_X5_read_27B (N : Nat) (δ : Nat) (c1 : Int32) (rec : Int32 → xm_H → Option (Int32 × xm_H)) (c2 : Int32) (h : xm_H) : Option (Int32 × xm_H) := (if c2 < c1 then (if (xm_i h 162 4) = 0 then (some ((1 : Int32), h)) else (xb (f_X5_statement N δ h) fun v3 h4 => (if v3 = 0 then (some ((0 : Int32), h4)) else (rec (c2 + (1 : Int32)) h4)))) else (some ((1 : Int32), h)))
def f_X5_read_27 (N : Nat) (δ : Nat) (c1 : Int32) : Nat → Int32 → xm_H → Option (Int32 × xm_H)
  | 0 => fun _ _ => none
  | n + 1 => fun c2 h => f_X5_read_27B N δ c1 (f_X5_read_27 N δ c1 n) c2 h
def f_X5_read (N : Nat) (δ : Nat) (x1 : Int32) (h : xm_H) : Option (Int32 × xm_H) := (xl (xm_si h 161 4 (0 : Int32)) fun h1 => (xl (xm_si h1 161 5 (-1 : Int32)) fun h3 => (xb (f_X6_clear δ h3) fun v5 h6 => (xb (f_X9_begin N x1 h6) fun v8 h9 => (f_X5_read_27 N δ x1 N (0 : Int32) h9)))))
theorem tl_X5_read_27 {ρ : Nat} {N : Nat} {δ : Nat} {c1 : Int32} {Q : xm_O → xm_H → Prop} {w : Int32 × xm_H}  (hQ : xS ρ δ w.2 → Q (xji w.1) w.2)  : ∀ (n : Nat) (c2 : Int32) (h : xm_H), xS ρ δ h → f_X5_read_27 N δ c1 n c2 h = some w → xm_W (xm_Rn xX 9) xM_X5_read Q 27 [some (.ref 161), some (.int c1), some (.int c2)] [] h := by
  intro n
  induction n with
  | zero =>
    intro c2 h hS hf
    exact (xn_e hf).elim
  | succ n ih =>
    intro c2 h hS hf
    replace hf : f_X5_read_27B N δ c1 (f_X5_read_27 N δ c1 n) c2 h = some w := hf
    unfold f_X5_read_27B at hf
    refine xw_K (pc' := 28) (ls' := [some (.ref 161), some (.int c1), some (.int c2)]) (st' := [.int c2]) rfl rfl trivial ?_
    refine xw_G (pc' := 29) (st' := [.int c1, .int c2]) rfl rfl trivial ?_
    refine xj_ic_ge rfl hf (fun hc1 hf => ?_) (fun hc1 hf => ?_)
    · refine xw_G (pc' := 33) (st' := [.ref 161]) rfl rfl trivial ?_
      refine xw_gr rfl (xkf (xs_k hS rfl rfl : xm_k h 161 = (6, 0))) (xs_r hS rfl) ?_
      refine xw_G (pc' := 39) (st' := [.int (xm_i h 162 4)]) rfl rfl (xkf (xs_k hS rfl rfl : xm_k h 162 = (10, 0))) ?_
      refine xj_if_eq rfl hf (fun hc2 hf => ?_) (fun hc2 hf => ?_)
      · refine xw_G (pc' := 58) (st' := [.int (1 : Int32)]) rfl rfl trivial ?_
        exact xr_i (inj := xji) rfl rfl rfl rfl hf hQ hS
      · refine xw_G (pc' := 43) (st' := [.ref 161]) rfl rfl trivial ?_
        refine xb_e hf (fun v3 h4 e5 hf => ?_)
        refine xw_V (v := some (.int v3)) rfl rfl (xkf (xs_k hS rfl rfl : xm_k h 161 = (6, 0))) (Nat.le_of_ble_eq_true rfl) (Nat.le_of_ble_eq_true rfl) (xm_Rn_le (Nat.le_of_ble_eq_true rfl) (t_X5_statement  hS e5).1) ?_
        have hS := (t_X5_statement  hS e5).2
        show xm_W _ _ _ 46 _ [.int v3] _
        refine xj_if_ne rfl hf (fun hc6 hf => ?_) (fun hc6 hf => ?_)
        · refine xw_G (pc' := 50) (st' := [.int (0 : Int32)]) rfl rfl trivial ?_
          exact xr_i (inj := xji) rfl rfl rfl rfl hf hQ hS
        · refine xw_G (pc' := 54) (ls' := [some (.ref 161), some (.int c1), some (.int (c2 + (1 : Int32)))]) (st' := []) rfl rfl (Nat.le_of_ble_eq_true rfl) ?_
          refine xw_G (pc' := 27) (st' := []) rfl rfl trivial ?_
          refine xw_M rfl rfl ?_
          exact ih _ _ hS hf
    · refine xw_G (pc' := 58) (st' := [.int (1 : Int32)]) rfl rfl trivial ?_
      exact xr_i (inj := xji) rfl rfl rfl rfl hf hQ hS
theorem t_X5_read {N : Nat} {ρ : Nat} {δ : Nat} {x1 : Int32} {h : xm_H} {w : Int32 × xm_H}  (hS : xS ρ δ h) (hf : f_X5_read N δ x1 h = some w) : xm_Rn xX 10 37 [.ref 161, .int x1] h (xji w.1) w.2 ∧ xS ρ δ w.2 := by
  refine xt_mk (φ := fun h => xS ρ δ h) (M := xM_X5_read) (ls := [some (.ref 161), some (.int x1), none]) rfl (Nat.le_of_ble_eq_true rfl) rfl (fun Q hQ => ?_)
  unfold f_X5_read at hf
  refine xw_G (pc' := 1) (st' := [.ref 161]) rfl rfl trivial ?_
  refine xw_G (pc' := 2) (st' := [.int (0 : Int32), .ref 161]) rfl rfl trivial ?_
  refine xp_i rfl (xkf (xs_k hS rfl rfl : xm_k h 161 = (6, 0))) (Nat.le_of_ble_eq_true rfl) hf (fun h1 e2 hf => ?_)
  have hS := xS_si hS e2
  refine xw_G (pc' := 6) (st' := [.ref 161]) rfl rfl trivial ?_
  refine xw_G (pc' := 7) (st' := [.int (-1 : Int32), .ref 161]) rfl rfl trivial ?_
  refine xp_i rfl (xkf (xs_k hS rfl rfl : xm_k h1 161 = (6, 0))) (Nat.le_of_ble_eq_true rfl) hf (fun h3 e4 hf => ?_)
  have hS := xS_si hS e4
  refine xw_G (pc' := 11) (st' := [.ref 161]) rfl rfl trivial ?_
  refine xw_gr rfl (xkf (xs_k hS rfl rfl : xm_k h3 161 = (6, 0))) (xs_del hS) ?_
  refine xb_e hf (fun v5 h6 e7 hf => ?_)
  refine xw_V (v := none) rfl rfl (xkf (xsR0 hS (xs_D hS))) (Nat.le_of_ble_eq_true rfl) (Nat.le_of_ble_eq_true rfl) (xm_Rn_le (Nat.le_of_ble_eq_true rfl) (t_X6_clear (xs_D hS) hS e7).1) ?_
  have hS := (t_X6_clear (xs_D hS) hS e7).2
  show xm_W _ _ _ 17 _ [] _
  refine xw_G (pc' := 18) (st' := [.ref 161]) rfl rfl trivial ?_
  refine xw_gr rfl (xkf (xs_k hS rfl rfl : xm_k h6 161 = (6, 0))) (xs_r hS rfl) ?_
  refine xw_G (pc' := 22) (st' := [.int x1, .ref 162]) rfl rfl trivial ?_
  refine xb_e hf (fun v8 h9 e10 hf => ?_)
  refine xw_V (v := none) rfl rfl (xkf (xs_k hS rfl rfl : xm_k h6 162 = (10, 0))) (Nat.le_of_ble_eq_true rfl) (Nat.le_of_ble_eq_true rfl) (xm_Rn_le (Nat.le_of_ble_eq_true rfl) (t_X9_begin  hS e10).1) ?_
  have hS := (t_X9_begin  hS e10).2
  show xm_W _ _ _ 25 _ [] _
  refine xw_G (pc' := 26) (st' := [.int (0 : Int32)]) rfl rfl trivial ?_
  refine xw_G (pc' := 27) (ls' := [some (.ref 161), some (.int x1), some (.int (0 : Int32))]) (st' := []) rfl rfl (Nat.le_of_ble_eq_true rfl) ?_
  refine xw_M rfl rfl ?_
  refine tl_X5_read_27  hQ  _ _ _ hS hf
def f_X7_beginDay_7B (N : Nat) (rec : Int32 → xm_H → Option (Unit × xm_H)) (c1 : Int32) (h : xm_H) : Option (Unit × xm_H) := (if c1 < (8 : Int32) then (if xin c1 8 then (xl (xm_si h 206 (Int32.toNatClampNeg c1) (0 : Int32)) fun h3 => (xl (xm_si h3 207 (Int32.toNatClampNeg c1) (100 : Int32)) fun h5 => (rec (c1 + (1 : Int32)) h5))) else none) else (some ((), h)))
def f_X7_beginDay_7 (N : Nat) : Nat → Int32 → xm_H → Option (Unit × xm_H)
  | 0 => fun _ _ => none
  | n + 1 => fun c1 h => f_X7_beginDay_7B N (f_X7_beginDay_7 N n) c1 h
def f_X7_beginDay (N : Nat) (h : xm_H) : Option (Unit × xm_H) := (xl (xm_si h 201 1 (0 : Int32)) fun h1 => (f_X7_beginDay_7 N N (0 : Int32) h1))
theorem tl_X7_beginDay_7 {ρ : Nat} {δ : Nat} {N : Nat} {Q : xm_O → xm_H → Prop} {w : Unit × xm_H}  (hQ : xS ρ δ w.2 → Q (xjv w.1) w.2)  : ∀ (n : Nat) (c1 : Int32) (h : xm_H), xS ρ δ h → f_X7_beginDay_7 N n c1 h = some w → xm_W (xm_Rn xX 0) xM_X7_beginDay Q 7 [some (.ref 201), some (.int c1)] [] h := by
  intro n
  induction n with
  | zero =>
    intro c1 h hS hf
    exact (xn_e hf).elim
  | succ n ih =>
    intro c1 h hS hf
    replace hf : f_X7_beginDay_7B N (f_X7_beginDay_7 N n) c1 h = some w := hf
    unfold f_X7_beginDay_7B at hf
    refine xw_K (pc' := 8) (ls' := [some (.ref 201), some (.int c1)]) (st' := [.int c1]) rfl rfl trivial ?_
    refine xw_G (pc' := 10) (st' := [.int (8 : Int32), .int c1]) rfl rfl trivial ?_
    refine xj_ic_ge rfl hf (fun hc1 hf => ?_) (fun hc1 hf => ?_)
    · refine xw_G (pc' := 14) (st' := [.ref 201]) rfl rfl trivial ?_
      refine xw_gr rfl (xkf (xs_k hS rfl rfl : xm_k h 201 = (8, 0))) (xs_r hS rfl) ?_
      refine xw_G (pc' := 18) (st' := [.int c1, .ref 206]) rfl rfl trivial ?_
      refine xw_G (pc' := 19) (st' := [.int (0 : Int32), .int c1, .ref 206]) rfl rfl trivial ?_
      refine xg_e hf (fun hg2 hf => ?_)
      refine xa_i rfl (xkf (xs_k hS rfl rfl : xm_k h 206 = (100, 8))) (xkn (xs_k hS rfl rfl : xm_k h 206 = (100, 8))) hg2 (Nat.le_of_ble_eq_true rfl) hf (fun h3 e4 hf => ?_)
      have hS := xS_si hS e4
      refine xw_G (pc' := 21) (st' := [.ref 201]) rfl rfl trivial ?_
      refine xw_gr rfl (xkf (xs_k hS rfl rfl : xm_k h3 201 = (8, 0))) (xs_r hS rfl) ?_
      refine xw_G (pc' := 25) (st' := [.int c1, .ref 207]) rfl rfl trivial ?_
      refine xw_G (pc' := 27) (st' := [.int (100 : Int32), .int c1, .ref 207]) rfl rfl trivial ?_
      refine xa_i rfl (xkf (xs_k hS rfl rfl : xm_k h3 207 = (100, 8))) (xkn (xs_k hS rfl rfl : xm_k h3 207 = (100, 8))) hg2 (Nat.le_of_ble_eq_true rfl) hf (fun h5 e6 hf => ?_)
      have hS := xS_si hS e6
      refine xw_G (pc' := 31) (ls' := [some (.ref 201), some (.int (c1 + (1 : Int32)))]) (st' := []) rfl rfl (Nat.le_of_ble_eq_true rfl) ?_
      refine xw_G (pc' := 7) (st' := []) rfl rfl trivial ?_
      refine xw_M rfl rfl ?_
      exact ih _ _ hS hf
    · exact xr_v (inj := xjv) rfl rfl hf hQ hS
theorem t_X7_beginDay {N : Nat} {ρ : Nat} {δ : Nat} {h : xm_H} {w : Unit × xm_H}  (hS : xS ρ δ h) (hf : f_X7_beginDay N h = some w) : xm_Rn xX 1 60 [.ref 201] h (xjv w.1) w.2 ∧ xS ρ δ w.2 := by
  refine xt_mk (φ := fun h => xS ρ δ h) (M := xM_X7_beginDay) (ls := [some (.ref 201), none]) rfl (Nat.le_of_ble_eq_true rfl) rfl (fun Q hQ => ?_)
  unfold f_X7_beginDay at hf
  refine xw_G (pc' := 1) (st' := [.ref 201]) rfl rfl trivial ?_
  refine xw_G (pc' := 2) (st' := [.int (0 : Int32), .ref 201]) rfl rfl trivial ?_
  refine xp_i rfl (xkf (xs_k hS rfl rfl : xm_k h 201 = (8, 0))) (Nat.le_of_ble_eq_true rfl) hf (fun h1 e2 hf => ?_)
  have hS := xS_si hS e2
  refine xw_G (pc' := 6) (st' := [.int (0 : Int32)]) rfl rfl trivial ?_
  refine xw_G (pc' := 7) (ls' := [some (.ref 201), some (.int (0 : Int32))]) (st' := []) rfl rfl (Nat.le_of_ble_eq_true rfl) ?_
  refine xw_M rfl rfl ?_
  refine tl_X7_beginDay_7  hQ  _ _ _ hS hf
def f_X7_begin_17B (N : Nat) (x1 : Nat) (k46 : xm_H → Option (Unit × xm_H)) (rec : Int32 → xm_H → Option (Unit × xm_H)) (c2 : Int32) (h : xm_H) : Option (Unit × xm_H) := (if c2 < (xm_i h x1 5) then (if xin c2 6 then (xl (xm_si h 202 (Int32.toNatClampNeg c2) (xm_i h (x1 + 3 + Int32.toNatClampNeg c2) 1)) fun h3 => (rec (c2 + (1 : Int32)) h3)) else none) else (k46  h))
def f_X7_begin_17 (N : Nat) (x1 : Nat) (k46 : xm_H → Option (Unit × xm_H)) : Nat → Int32 → xm_H → Option (Unit × xm_H)
  | 0 => fun _ _ => none
  | n + 1 => fun c2 h => f_X7_begin_17B N x1 k46 (f_X7_begin_17 N x1 k46 n) c2 h
def f_X7_begin_48B (N : Nat) (x1 : Nat) (k106 : xm_H → Option (Unit × xm_H)) (rec : Int32 → xm_H → Option (Unit × xm_H)) (c2 : Int32) (h : xm_H) : Option (Unit × xm_H) := (if c2 < (xm_i h x1 7) then (if xin c2 8 then (xl (xm_si h 203 (Int32.toNatClampNeg c2) (xm_i h (x1 + 10 + Int32.toNatClampNeg c2) 1)) fun h3 => (xl (xm_si h3 204 (Int32.toNatClampNeg c2) (xm_i h3 (x1 + 10 + Int32.toNatClampNeg c2) 2)) fun h5 => (xl (xm_si h5 205 (Int32.toNatClampNeg c2) (xm_i h5 (x1 + 10 + Int32.toNatClampNeg c2) 6)) fun h7 => (xl (xm_si h7 208 (Int32.toNatClampNeg c2) (0 : Int32)) fun h9 => (rec (c2 + (1 : Int32)) h9))))) else none) else (k106  h))
def f_X7_begin_48 (N : Nat) (x1 : Nat) (k106 : xm_H → Option (Unit × xm_H)) : Nat → Int32 → xm_H → Option (Unit × xm_H)
  | 0 => fun _ _ => none
  | n + 1 => fun c2 h => f_X7_begin_48B N x1 k106 (f_X7_begin_48 N x1 k106 n) c2 h
def f_X7_begin (N : Nat) (x1 : Nat) (h : xm_H) : Option (Unit × xm_H) := (xl (xm_si h 201 0 (0 : Int32)) fun h1 => (xl (xm_si h1 201 2 (0 : Int32)) fun h3 => (xl (xm_si h3 201 3 (0 : Int32)) fun h5 => (f_X7_begin_17 N x1 (fun  (h7 : xm_H) => (f_X7_begin_48 N x1 (fun  (h8 : xm_H) => (xb (f_X7_beginDay N h8) fun v9 h10 => (some ((), h10)))) N (0 : Int32) h7)) N (0 : Int32) h5))))
theorem tl_X7_begin_17 {ρ : Nat} {δ : Nat} {N : Nat} {x1 : Nat} {k46 : xm_H → Option (Unit × xm_H)} {Q : xm_O → xm_H → Prop} {w : Unit × xm_H} (hx1 : xIsR x1) (hQ : xS ρ δ w.2 → Q (xjv w.1) w.2) (hk46 : ∀  (h : xm_H), xS ρ δ h → k46  h = some w → xm_W (xm_Rn xX 1) xM_X7_begin Q 46 [some (.ref 201), some (.ref x1), none, none] [] h) : ∀ (n : Nat) (c2 : Int32) (h : xm_H), xS ρ δ h → f_X7_begin_17 N x1 k46 n c2 h = some w → xm_W (xm_Rn xX 1) xM_X7_begin Q 17 [some (.ref 201), some (.ref x1), some (.int c2), none] [] h := by
  intro n
  induction n with
  | zero =>
    intro c2 h hS hf
    exact (xn_e hf).elim
  | succ n ih =>
    intro c2 h hS hf
    replace hf : f_X7_begin_17B N x1 k46 (f_X7_begin_17 N x1 k46 n) c2 h = some w := hf
    unfold f_X7_begin_17B at hf
    refine xw_K (pc' := 18) (ls' := [some (.ref 201), some (.ref x1), some (.int c2), none]) (st' := [.int c2]) rfl rfl trivial ?_
    refine xw_G (pc' := 19) (st' := [.ref x1, .int c2]) rfl rfl trivial ?_
    refine xw_G (pc' := 22) (st' := [.int (xm_i h x1 5), .int c2]) rfl rfl (xkf (xsR0 hS hx1)) ?_
    refine xj_ic_ge rfl hf (fun hc1 hf => ?_) (fun hc1 hf => ?_)
    · refine xw_G (pc' := 26) (st' := [.ref 201]) rfl rfl trivial ?_
      refine xw_gr rfl (xkf (xs_k hS rfl rfl : xm_k h 201 = (8, 0))) (xs_r hS rfl) ?_
      refine xw_G (pc' := 30) (st' := [.int c2, .ref 202]) rfl rfl trivial ?_
      refine xw_G (pc' := 31) (st' := [.ref x1, .int c2, .ref 202]) rfl rfl trivial ?_
      refine xw_gr rfl (xkf (xsR0 hS hx1)) (xsRr4 hS hx1) ?_
      refine xw_G (pc' := 35) (st' := [.int c2, .ref (x1 + 2), .int c2, .ref 202]) rfl rfl trivial ?_
      refine xg_e hf (fun hg2 hf => ?_)
      refine xa_ar (b := (x1 + 3 + Int32.toNatClampNeg c2)) rfl (xkf (xsR2 hS hx1)) (xkn (xsR2 hS hx1)) hg2 (xsTag hS hx1 hg2) ?_
      refine xw_G (pc' := 39) (st' := [.int (xm_i h (x1 + 3 + Int32.toNatClampNeg c2) 1), .int c2, .ref 202]) rfl rfl (xkf (xsT hS (xIsT_mk (j := c2) hx1 hg2))) ?_
      refine xa_i rfl (xkf (xs_k hS rfl rfl : xm_k h 202 = (100, 6))) (xkn (xs_k hS rfl rfl : xm_k h 202 = (100, 6))) hg2 (Nat.le_of_ble_eq_true rfl) hf (fun h3 e4 hf => ?_)
      have hS := xS_si hS e4
      refine xw_G (pc' := 43) (ls' := [some (.ref 201), some (.ref x1), some (.int (c2 + (1 : Int32))), none]) (st' := []) rfl rfl (Nat.le_of_ble_eq_true rfl) ?_
      refine xw_G (pc' := 17) (st' := []) rfl rfl trivial ?_
      refine xw_M rfl rfl ?_
      exact ih _ _ hS hf
    · refine xw_M rfl rfl ?_
      exact hk46  _ hS hf
theorem tl_X7_begin_48 {ρ : Nat} {δ : Nat} {N : Nat} {x1 : Nat} {k106 : xm_H → Option (Unit × xm_H)} {Q : xm_O → xm_H → Prop} {w : Unit × xm_H} (hx1 : xIsR x1) (hQ : xS ρ δ w.2 → Q (xjv w.1) w.2) (hk106 : ∀  (h : xm_H), xS ρ δ h → k106  h = some w → xm_W (xm_Rn xX 1) xM_X7_begin Q 106 [some (.ref 201), none, none, none] [] h) : ∀ (n : Nat) (c2 : Int32) (h : xm_H), xS ρ δ h → f_X7_begin_48 N x1 k106 n c2 h = some w → xm_W (xm_Rn xX 1) xM_X7_begin Q 48 [some (.ref 201), some (.ref x1), some (.int c2), none] [] h := by
  intro n
  induction n with
  | zero =>
    intro c2 h hS hf
    exact (xn_e hf).elim
  | succ n ih =>
    intro c2 h hS hf
    replace hf : f_X7_begin_48B N x1 k106 (f_X7_begin_48 N x1 k106 n) c2 h = some w := hf
    unfold f_X7_begin_48B at hf
    refine xw_K (pc' := 49) (ls' := [some (.ref 201), some (.ref x1), some (.int c2), none]) (st' := [.int c2]) rfl rfl trivial ?_
    refine xw_G (pc' := 50) (st' := [.ref x1, .int c2]) rfl rfl trivial ?_
    refine xw_G (pc' := 53) (st' := [.int (xm_i h x1 7), .int c2]) rfl rfl (xkf (xsR0 hS hx1)) ?_
    refine xj_ic_ge rfl hf (fun hc1 hf => ?_) (fun hc1 hf => ?_)
    · refine xw_G (pc' := 57) (st' := [.ref x1]) rfl rfl trivial ?_
      refine xw_gr rfl (xkf (xsR0 hS hx1)) (xsRr6 hS hx1) ?_
      refine xw_G (pc' := 61) (st' := [.int c2, .ref (x1 + 9)]) rfl rfl trivial ?_
      refine xg_e hf (fun hg2 hf => ?_)
      refine xa_ar (b := (x1 + 10 + Int32.toNatClampNeg c2)) rfl (xkf (xsR9 hS hx1)) (xkn (xsR9 hS hx1)) hg2 (xsCam hS hx1 hg2) ?_
      refine xw_G (pc' := 63) (ls' := [some (.ref 201), some (.ref x1), some (.int c2), some (.ref (x1 + 10 + Int32.toNatClampNeg c2))]) (st' := []) rfl rfl (Nat.le_of_ble_eq_true rfl) ?_
      refine xw_G (pc' := 64) (st' := [.ref 201]) rfl rfl trivial ?_
      refine xw_gr rfl (xkf (xs_k hS rfl rfl : xm_k h 201 = (8, 0))) (xs_r hS rfl) ?_
      refine xw_G (pc' := 68) (st' := [.int c2, .ref 203]) rfl rfl trivial ?_
      refine xw_G (pc' := 69) (st' := [.ref (x1 + 10 + Int32.toNatClampNeg c2), .int c2, .ref 203]) rfl rfl trivial ?_
      refine xw_G (pc' := 72) (st' := [.int (xm_i h (x1 + 10 + Int32.toNatClampNeg c2) 1), .int c2, .ref 203]) rfl rfl (xkf (xsC hS (xIsC_mk (j := c2) hx1 hg2))) ?_
      refine xa_i rfl (xkf (xs_k hS rfl rfl : xm_k h 203 = (100, 8))) (xkn (xs_k hS rfl rfl : xm_k h 203 = (100, 8))) hg2 (Nat.le_of_ble_eq_true rfl) hf (fun h3 e4 hf => ?_)
      have hS := xS_si hS e4
      refine xw_G (pc' := 74) (st' := [.ref 201]) rfl rfl trivial ?_
      refine xw_gr rfl (xkf (xs_k hS rfl rfl : xm_k h3 201 = (8, 0))) (xs_r hS rfl) ?_
      refine xw_G (pc' := 78) (st' := [.int c2, .ref 204]) rfl rfl trivial ?_
      refine xw_G (pc' := 79) (st' := [.ref (x1 + 10 + Int32.toNatClampNeg c2), .int c2, .ref 204]) rfl rfl trivial ?_
      refine xw_G (pc' := 82) (st' := [.int (xm_i h3 (x1 + 10 + Int32.toNatClampNeg c2) 2), .int c2, .ref 204]) rfl rfl (xkf (xsC hS (xIsC_mk (j := c2) hx1 hg2))) ?_
      refine xa_i rfl (xkf (xs_k hS rfl rfl : xm_k h3 204 = (100, 8))) (xkn (xs_k hS rfl rfl : xm_k h3 204 = (100, 8))) hg2 (Nat.le_of_ble_eq_true rfl) hf (fun h5 e6 hf => ?_)
      have hS := xS_si hS e6
      refine xw_G (pc' := 84) (st' := [.ref 201]) rfl rfl trivial ?_
      refine xw_gr rfl (xkf (xs_k hS rfl rfl : xm_k h5 201 = (8, 0))) (xs_r hS rfl) ?_
      refine xw_G (pc' := 88) (st' := [.int c2, .ref 205]) rfl rfl trivial ?_
      refine xw_G (pc' := 89) (st' := [.ref (x1 + 10 + Int32.toNatClampNeg c2), .int c2, .ref 205]) rfl rfl trivial ?_
      refine xw_G (pc' := 92) (st' := [.int (xm_i h5 (x1 + 10 + Int32.toNatClampNeg c2) 6), .int c2, .ref 205]) rfl rfl (xkf (xsC hS (xIsC_mk (j := c2) hx1 hg2))) ?_
      refine xa_i rfl (xkf (xs_k hS rfl rfl : xm_k h5 205 = (100, 8))) (xkn (xs_k hS rfl rfl : xm_k h5 205 = (100, 8))) hg2 (Nat.le_of_ble_eq_true rfl) hf (fun h7 e8 hf => ?_)
      have hS := xS_si hS e8
      refine xw_G (pc' := 94) (st' := [.ref 201]) rfl rfl trivial ?_
      refine xw_gr rfl (xkf (xs_k hS rfl rfl : xm_k h7 201 = (8, 0))) (xs_r hS rfl) ?_
      refine xw_G (pc' := 98) (st' := [.int c2, .ref 208]) rfl rfl trivial ?_
      refine xw_G (pc' := 99) (st' := [.int (0 : Int32), .int c2, .ref 208]) rfl rfl trivial ?_
      refine xa_z rfl (xkf (xs_k hS rfl rfl : xm_k h7 208 = (101, 8))) (xkn (xs_k hS rfl rfl : xm_k h7 208 = (101, 8))) hg2 (Nat.le_of_ble_eq_true rfl) hf (fun h9 e10 hf => ?_)
      have hS := xS_si hS e10
      refine xw_G (pc' := 103) (ls' := [some (.ref 201), some (.ref x1), some (.int (c2 + (1 : Int32))), some (.ref (x1 + 10 + Int32.toNatClampNeg c2))]) (st' := []) rfl rfl (Nat.le_of_ble_eq_true rfl) ?_
      refine xw_G (pc' := 48) (st' := []) rfl rfl trivial ?_
      refine xw_M rfl rfl ?_
      exact ih _ _ hS hf
    · refine xw_M rfl rfl ?_
      exact hk106  _ hS hf
theorem t_X7_begin {N : Nat} {ρ : Nat} {δ : Nat} {x1 : Nat} {h : xm_H} {w : Unit × xm_H} (hx1 : xIsR x1) (hS : xS ρ δ h) (hf : f_X7_begin N x1 h = some w) : xm_Rn xX 2 59 [.ref 201, .ref x1] h (xjv w.1) w.2 ∧ xS ρ δ w.2 := by
  refine xt_mk (φ := fun h => xS ρ δ h) (M := xM_X7_begin) (ls := [some (.ref 201), some (.ref x1), none, none]) rfl (Nat.le_of_ble_eq_true rfl) rfl (fun Q hQ => ?_)
  unfold f_X7_begin at hf
  refine xw_G (pc' := 1) (st' := [.ref 201]) rfl rfl trivial ?_
  refine xw_G (pc' := 2) (st' := [.int (0 : Int32), .ref 201]) rfl rfl trivial ?_
  refine xp_i rfl (xkf (xs_k hS rfl rfl : xm_k h 201 = (8, 0))) (Nat.le_of_ble_eq_true rfl) hf (fun h1 e2 hf => ?_)
  have hS := xS_si hS e2
  refine xw_G (pc' := 6) (st' := [.ref 201]) rfl rfl trivial ?_
  refine xw_G (pc' := 7) (st' := [.int (0 : Int32), .ref 201]) rfl rfl trivial ?_
  refine xp_i rfl (xkf (xs_k hS rfl rfl : xm_k h1 201 = (8, 0))) (Nat.le_of_ble_eq_true rfl) hf (fun h3 e4 hf => ?_)
  have hS := xS_si hS e4
  refine xw_G (pc' := 11) (st' := [.ref 201]) rfl rfl trivial ?_
  refine xw_G (pc' := 12) (st' := [.int (0 : Int32), .ref 201]) rfl rfl trivial ?_
  refine xp_i rfl (xkf (xs_k hS rfl rfl : xm_k h3 201 = (8, 0))) (Nat.le_of_ble_eq_true rfl) hf (fun h5 e6 hf => ?_)
  have hS := xS_si hS e6
  refine xw_G (pc' := 16) (st' := [.int (0 : Int32)]) rfl rfl trivial ?_
  refine xw_G (pc' := 17) (ls' := [some (.ref 201), some (.ref x1), some (.int (0 : Int32)), none]) (st' := []) rfl rfl (Nat.le_of_ble_eq_true rfl) ?_
  refine xw_M rfl rfl ?_
  refine tl_X7_begin_17 hx1 hQ (fun  h7 hS hf => ?_) _ _ _ hS hf
  refine xw_K (pc' := 47) (ls' := [some (.ref 201), some (.ref x1), none, none]) (st' := [.int (0 : Int32)]) rfl rfl trivial ?_
  refine xw_G (pc' := 48) (ls' := [some (.ref 201), some (.ref x1), some (.int (0 : Int32)), none]) (st' := []) rfl rfl (Nat.le_of_ble_eq_true rfl) ?_
  refine xw_M rfl rfl ?_
  refine tl_X7_begin_48 hx1 hQ (fun  h8 hS hf => ?_) _ _ _ hS hf
  refine xw_K (pc' := 107) (ls' := [some (.ref 201), none, none, none]) (st' := [.ref 201]) rfl rfl trivial ?_
  refine xb_e hf (fun v9 h10 e11 hf => ?_)
  refine xw_V (v := none) rfl rfl (xkf (xs_k hS rfl rfl : xm_k h8 201 = (8, 0))) (Nat.le_of_ble_eq_true rfl) (Nat.le_of_ble_eq_true rfl) (xm_Rn_le (Nat.le_of_ble_eq_true rfl) (t_X7_beginDay  hS e11).1) ?_
  have hS := (t_X7_beginDay  hS e11).2
  show xm_W _ _ _ 110 _ [] _
  exact xr_v (inj := xjv) rfl rfl hf hQ hS
def f_X2_open (N : Nat) (ρ : Nat) (x1 : Nat) (h : xm_H) : Option (Nat × xm_H) := (xl (xm_sr h 182 0 (some x1)) fun h1 => (xb (f_X7_begin N x1 h1) fun v3 h4 => (some (ρ, h4))))
theorem t_X2_open {N : Nat} {ρ : Nat} {δ : Nat} {x1 : Nat} {h : xm_H} {w : Nat × xm_H} (hx1 : xIsR x1) (hS : xS ρ δ h) (hf : f_X2_open N ρ x1 h = some w) : xm_Rn xX 3 6 [.ref 182, .ref x1] h (xjr w.1) w.2 ∧ xS x1 δ w.2 := by
  refine xt_mk (φ := fun h => xS x1 δ h) (M := xM_X2_open) (ls := [some (.ref 182), some (.ref x1), none]) rfl (Nat.le_of_ble_eq_true rfl) rfl (fun Q hQ => ?_)
  unfold f_X2_open at hf
  refine xw_G (pc' := 1) (st' := [.ref 182]) rfl rfl trivial ?_
  refine xw_gr rfl (xkf (xs_k hS rfl rfl : xm_k h 182 = (3, 0))) (xs_rho hS) ?_
  refine xw_G (pc' := 5) (ls' := [some (.ref 182), some (.ref x1), some (.ref ρ)]) (st' := []) rfl rfl (Nat.le_of_ble_eq_true rfl) ?_
  refine xw_G (pc' := 6) (st' := [.ref 182]) rfl rfl trivial ?_
  refine xw_G (pc' := 7) (st' := [.ref x1, .ref 182]) rfl rfl trivial ?_
  refine xp_r rfl (xkf (xs_k hS rfl rfl : xm_k h 182 = (3, 0))) (Nat.le_of_ble_eq_true rfl) hf (fun h1 e2 hf => ?_)
  have hS := xS_rho hS hx1 e2
  refine xw_G (pc' := 11) (st' := [.ref 182]) rfl rfl trivial ?_
  refine xw_gr rfl (xkf (xs_k hS rfl rfl : xm_k h1 182 = (3, 0))) (xs_r hS rfl) ?_
  refine xw_G (pc' := 15) (st' := [.ref x1, .ref 201]) rfl rfl trivial ?_
  refine xb_e hf (fun v3 h4 e5 hf => ?_)
  refine xw_V (v := none) rfl rfl (xkf (xs_k hS rfl rfl : xm_k h1 201 = (8, 0))) (Nat.le_of_ble_eq_true rfl) (Nat.le_of_ble_eq_true rfl) (xm_Rn_le (Nat.le_of_ble_eq_true rfl) (t_X7_begin hx1 hS e5).1) ?_
  have hS := (t_X7_begin hx1 hS e5).2
  show xm_W _ _ _ 18 _ [] _
  refine xw_G (pc' := 19) (st' := [.ref ρ]) rfl rfl trivial ?_
  exact xr_r (inj := xjr) rfl rfl hf hQ hS
def f_X3_forget  (h : xm_H) : Option (Unit × xm_H) := (xl (xm_si h 234 2 (0 : Int32)) fun h1 => (some ((), h1)))
theorem t_X3_forget {ρ : Nat} {δ : Nat} {h : xm_H} {w : Unit × xm_H}  (hS : xS ρ δ h) (hf : f_X3_forget  h = some w) : xm_Rn xX 1 29 [.ref 234] h (xjv w.1) w.2 ∧ xS ρ δ w.2 := by
  refine xt_mk (φ := fun h => xS ρ δ h) (M := xM_X3_forget) (ls := [some (.ref 234)]) rfl (Nat.le_of_ble_eq_true rfl) rfl (fun Q hQ => ?_)
  unfold f_X3_forget at hf
  refine xw_G (pc' := 1) (st' := [.ref 234]) rfl rfl trivial ?_
  refine xw_G (pc' := 2) (st' := [.int (0 : Int32), .ref 234]) rfl rfl trivial ?_
  refine xp_i rfl (xkf (xs_k hS rfl rfl : xm_k h 234 = (4, 0))) (Nat.le_of_ble_eq_true rfl) hf (fun h1 e2 hf => ?_)
  have hS := xS_si hS e2
  exact xr_v (inj := xjv) rfl rfl hf hQ hS
def f_X10_load (N : Nat) (ρ : Nat) (δ : Nat) (x1 : Int32) (h : xm_H) : Option ((Int32 ⊕ Nat × Nat) × xm_H) := (xe (f_X10_requireRange x1 (0 : Int32) (xm_i h 162 1) h) (fun v1 h2 => (xl (xm_si h2 162 1 (0 : Int32)) fun h4 => (xb (f_X5_read N δ x1 h4) fun v6 h7 => (if v6 = 0 then (some (.inl (-3 : Int32), h7)) else (xb (f_X2_open N ρ δ h7) fun v10 h11 => (if xIsR v10 then (xl (xm_sr h11 161 3 (some v10)) fun h13 => (xb (f_X3_forget h13) fun v16 h17 => (some (.inl (xm_i h17 δ 7), h17)))) else none)))))) (fun q19 h20 => (some (.inr q19, h20))))
theorem t_X10_load {N : Nat} {ρ : Nat} {δ : Nat} {x1 : Int32} {h : xm_H} {w : (Int32 ⊕ Nat × Nat) × xm_H}  (hS : xS ρ δ h) (hf : f_X10_load N ρ δ x1 h = some w) : xm_Rn xX 11 74 [.ref 160, .int x1] h (xti w.1) w.2 ∧ ∃ ρ δ, xS ρ δ w.2 := by
  refine xt_mk (φ := fun h => ∃ ρ δ, xS ρ δ h) (M := xM_X10_load) (ls := [some (.ref 160), some (.int x1)]) rfl (Nat.le_of_ble_eq_true rfl) rfl (fun Q hQ => ?_)
  unfold f_X10_load at hf
  refine xw_G (pc' := 1) (st' := [.int x1]) rfl rfl trivial ?_
  refine xw_G (pc' := 2) (st' := [.int (0 : Int32), .int x1]) rfl rfl trivial ?_
  refine xw_G (pc' := 3) (st' := [.ref 160, .int (0 : Int32), .int x1]) rfl rfl trivial ?_
  refine xw_gr rfl (xkf (xs_k hS rfl rfl : xm_k h 160 = (0, 0))) (xs_r hS rfl) ?_
  refine xw_gr rfl (xkf (xs_k hS rfl rfl : xm_k h 161 = (6, 0))) (xs_r hS rfl) ?_
  refine xw_G (pc' := 12) (st' := [.int (xm_i h 162 1), .int (0 : Int32), .int x1]) rfl rfl (xkf (xs_k hS rfl rfl : xm_k h 162 = (10, 0))) ?_
  refine xe_e hf (fun v1 h2 e3 hf => ?_) (fun q19 h20 e3 hf => ?_)
  · refine xw_S (v := none) rfl (Nat.le_of_ble_eq_true rfl) (Nat.le_of_ble_eq_true rfl) (xm_Rn_le (Nat.le_of_ble_eq_true rfl) (t_X10_requireRange  hS e3).1) ?_
    have hS := (t_X10_requireRange  hS e3).2
    show xm_W _ _ _ 15 _ [] _
    refine xw_G (pc' := 16) (st' := [.ref 160]) rfl rfl trivial ?_
    refine xw_gr rfl (xkf (xs_k hS rfl rfl : xm_k h2 160 = (0, 0))) (xs_r hS rfl) ?_
    refine xw_gr rfl (xkf (xs_k hS rfl rfl : xm_k h2 161 = (6, 0))) (xs_r hS rfl) ?_
    refine xw_G (pc' := 23) (st' := [.int (0 : Int32), .ref 162]) rfl rfl trivial ?_
    refine xp_i rfl (xkf (xs_k hS rfl rfl : xm_k h2 162 = (10, 0))) (Nat.le_of_ble_eq_true rfl) hf (fun h4 e5 hf => ?_)
    have hS := xS_si hS e5
    refine xw_G (pc' := 27) (st' := [.ref 160]) rfl rfl trivial ?_
    refine xw_gr rfl (xkf (xs_k hS rfl rfl : xm_k h4 160 = (0, 0))) (xs_r hS rfl) ?_
    refine xw_G (pc' := 31) (st' := [.int x1, .ref 161]) rfl rfl trivial ?_
    refine xb_e hf (fun v6 h7 e8 hf => ?_)
    refine xw_V (v := some (.int v6)) rfl rfl (xkf (xs_k hS rfl rfl : xm_k h4 161 = (6, 0))) (Nat.le_of_ble_eq_true rfl) (Nat.le_of_ble_eq_true rfl) (xm_Rn_le (Nat.le_of_ble_eq_true rfl) (t_X5_read  hS e8).1) ?_
    have hS := (t_X5_read  hS e8).2
    show xm_W _ _ _ 34 _ [.int v6] _
    refine xj_if_ne rfl hf (fun hc9 hf => ?_) (fun hc9 hf => ?_)
    · refine xw_G (pc' := 39) (st' := [.int (-3 : Int32)]) rfl rfl trivial ?_
      exact xr_i (inj := xti) (φ := fun h => ∃ ρ δ, xS ρ δ h) rfl rfl rfl rfl hf hQ ⟨_, _, hS⟩
    · refine xw_G (pc' := 41) (st' := [.ref 160]) rfl rfl trivial ?_
      refine xw_gr rfl (xkf (xs_k hS rfl rfl : xm_k h7 160 = (0, 0))) (xs_r hS rfl) ?_
      refine xw_G (pc' := 45) (st' := [.ref 160, .ref 161]) rfl rfl trivial ?_
      refine xw_gr rfl (xkf (xs_k hS rfl rfl : xm_k h7 160 = (0, 0))) (xs_r hS rfl) ?_
      refine xw_G (pc' := 49) (st' := [.ref 160, .ref 182, .ref 161]) rfl rfl trivial ?_
      refine xw_gr rfl (xkf (xs_k hS rfl rfl : xm_k h7 160 = (0, 0))) (xs_r hS rfl) ?_
      refine xw_gr rfl (xkf (xs_k hS rfl rfl : xm_k h7 161 = (6, 0))) (xs_del hS) ?_
      refine xb_e hf (fun v10 h11 e12 hf => ?_)
      refine xw_V (v := some (.ref v10)) rfl rfl (xkf (xs_k hS rfl rfl : xm_k h7 182 = (3, 0))) (Nat.le_of_ble_eq_true rfl) (Nat.le_of_ble_eq_true rfl) (xm_Rn_le (Nat.le_of_ble_eq_true rfl) (t_X2_open (xs_D hS) hS e12).1) ?_
      have hS := (t_X2_open (xs_D hS) hS e12).2
      show xm_W _ _ _ 58 _ [.ref v10, .ref 161] _
      refine xg_e hf (fun hg15 hf => ?_)
      refine xp_r rfl (xkf (xs_k hS rfl rfl : xm_k h11 161 = (6, 0))) (Nat.le_of_ble_eq_true rfl) hf (fun h13 e14 hf => ?_)
      have hS := xS_del hS hg15 e14
      refine xw_G (pc' := 62) (st' := [.ref 160]) rfl rfl trivial ?_
      refine xw_gr rfl (xkf (xs_k hS rfl rfl : xm_k h13 160 = (0, 0))) (xs_r hS rfl) ?_
      refine xb_e hf (fun v16 h17 e18 hf => ?_)
      refine xw_V (v := none) rfl rfl (xkf (xs_k hS rfl rfl : xm_k h13 234 = (4, 0))) (Nat.le_of_ble_eq_true rfl) (Nat.le_of_ble_eq_true rfl) (xm_Rn_le (Nat.le_of_ble_eq_true rfl) (t_X3_forget  hS e18).1) ?_
      have hS := (t_X3_forget  hS e18).2
      show xm_W _ _ _ 68 _ [] _
      refine xw_G (pc' := 69) (st' := [.ref 160]) rfl rfl trivial ?_
      refine xw_gr rfl (xkf (xs_k hS rfl rfl : xm_k h17 160 = (0, 0))) (xs_r hS rfl) ?_
      refine xw_gr rfl (xkf (xs_k hS rfl rfl : xm_k h17 182 = (3, 0))) (xs_rho hS) ?_
      refine xw_G (pc' := 78) (st' := [.int (xm_i h17 δ 7)]) rfl rfl (xkf (xsR0 hS (xs_R hS))) ?_
      exact xr_i (inj := xti) (φ := fun h => ∃ ρ δ, xS ρ δ h) rfl rfl rfl rfl hf hQ ⟨_, _, hS⟩
  · refine xw_SX (x := q19) rfl (Nat.le_of_ble_eq_true rfl) (Nat.le_of_ble_eq_true rfl) (xm_Rn_le (Nat.le_of_ble_eq_true rfl) (t_X10_requireRange  hS e3).1) rfl ?_
    have hS := (t_X10_requireRange  hS e3).2
    exact xr_x (inj := xti) (φ := fun h => ∃ ρ δ, xS ρ δ h) rfl hf hQ ⟨_, _, hS⟩
def f_L_load (N : Nat) (ρ : Nat) (δ : Nat) (x1 : Int32) (h : xm_H) : Option (Int32 × xm_H) := (xe (f_X10_load N ρ δ x1 h) (fun v1 h2 => (xl (xm_sl h2 316 0 (Int32.toInt64 v1)) fun h4 => (some ((0 : Int32), h4)))) (fun q6 h7 => (if (q6).1 = 15 then (some ((1 : Int32), h7)) else none)))
theorem t_L_load {N : Nat} {ρ : Nat} {δ : Nat} {x1 : Int32} {h : xm_H} {w : Int32 × xm_H}  (hS : xS ρ δ h) (hf : f_L_load N ρ δ x1 h = some w) : xm_Rn xX 12 327 [.ref 160, .int x1, .ref 316] h (xji w.1) w.2 ∧ ∃ ρ δ, xS ρ δ w.2 := by
  refine xt_mk (φ := fun h => ∃ ρ δ, xS ρ δ h) (M := xM_L_load) (ls := [some (.ref 160), some (.int x1), some (.ref 316), none]) rfl (Nat.le_of_ble_eq_true rfl) rfl (fun Q hQ => ?_)
  unfold f_L_load at hf
  refine xw_G (pc' := 1) (st' := [.ref 316]) rfl rfl trivial ?_
  refine xw_G (pc' := 2) (st' := [.int (0 : Int32), .ref 316]) rfl rfl trivial ?_
  refine xw_G (pc' := 3) (st' := [.ref 160, .int (0 : Int32), .ref 316]) rfl rfl trivial ?_
  refine xw_G (pc' := 4) (st' := [.int x1, .ref 160, .int (0 : Int32), .ref 316]) rfl rfl trivial ?_
  refine xe_e hf (fun v1 h2 e3 hf => ?_) (fun q6 h7 e3 hf => ?_)
  · refine xw_V (v := some (.int v1)) rfl rfl (xkf (xs_k hS rfl rfl : xm_k h 160 = (0, 0))) (Nat.le_of_ble_eq_true rfl) (Nat.le_of_ble_eq_true rfl) (xm_Rn_le (Nat.le_of_ble_eq_true rfl) (t_X10_load  hS e3).1) ?_
    obtain ⟨ρ1, δ1, hS⟩ := (t_X10_load  hS e3).2
    show xm_W _ _ _ 7 _ [.int v1, .int (0 : Int32), .ref 316] _
    refine xw_G (pc' := 8) (st' := [.long (Int32.toInt64 v1), .int (0 : Int32), .ref 316]) rfl rfl trivial ?_
    refine xa_l rfl (xkf (xs_k hS rfl rfl : xm_k h2 316 = (104, 1))) (xkn (xs_k hS rfl rfl : xm_k h2 316 = (104, 1))) (by decide : xin (0 : Int32) 1) (Nat.le_of_ble_eq_true rfl) hf (fun h4 e5 hf => ?_)
    have hS := xS_sl hS e5
    refine xw_G (pc' := 15) (st' := []) rfl rfl trivial ?_
    refine xw_G (pc' := 16) (st' := [.int (0 : Int32)]) rfl rfl trivial ?_
    exact xr_i (inj := xji) (φ := fun h => ∃ ρ δ, xS ρ δ h) rfl rfl rfl rfl hf hQ ⟨_, _, hS⟩
  · by_cases hc8 : (q6).1 = 15
    · rw [if_pos hc8] at hf
      refine xw_VH (x := q6) (p := 12) rfl rfl (xkf (xs_k hS rfl rfl : xm_k h 160 = (0, 0))) (Nat.le_of_ble_eq_true rfl) (Nat.le_of_ble_eq_true rfl) (xm_Rn_le (Nat.le_of_ble_eq_true rfl) (t_X10_load  hS e3).1) (by rw [hc8]; rfl) ?_
      obtain ⟨ρ1, δ1, hS⟩ := (t_X10_load  hS e3).2
      refine xw_G (pc' := 13) (ls' := [some (.ref 160), some (.int x1), some (.ref 316), some (.ref ((q6).2))]) (st' := []) rfl rfl (Nat.le_of_ble_eq_true rfl) ?_
      refine xw_G (pc' := 14) (st' := [.int (1 : Int32)]) rfl rfl trivial ?_
      exact xr_i (inj := xji) (φ := fun h => ∃ ρ δ, xS ρ δ h) rfl rfl rfl rfl hf hQ ⟨_, _, hS⟩
    · rw [if_neg hc8] at hf
      exact (xn_e hf).elim
def f_X11_between (x0 : Int64) (x1 : Int64) (x2 : Int64) (h : xm_H) : Option (Int32 × xm_H) := (if (lg_cmp x0 x1) < 0 then (some ((0 : Int32), h)) else (if 0 < (lg_cmp x0 x2) then (some ((0 : Int32), h)) else (some ((1 : Int32), h))))
theorem t_X11_between {ρ : Nat} {δ : Nat} {x0 : Int64} {x1 : Int64} {x2 : Int64} {h : xm_H} {w : Int32 × xm_H}  (hS : xS ρ δ h) (hf : f_X11_between x0 x1 x2 h = some w) : xm_Rn xX 1 133 [.long x0, .long x1, .long x2] h (xji w.1) w.2 ∧ xS ρ δ w.2 := by
  refine xt_mk (φ := fun h => xS ρ δ h) (M := xM_X11_between) (ls := [some (.long x0), none, some (.long x1), none, some (.long x2), none]) rfl (Nat.le_of_ble_eq_true rfl) rfl (fun Q hQ => ?_)
  unfold f_X11_between at hf
  refine xw_G (pc' := 1) (st' := [.long x0]) rfl rfl trivial ?_
  refine xw_G (pc' := 2) (st' := [.long x1, .long x0]) rfl rfl trivial ?_
  refine xw_G (pc' := 3) (st' := [.int (lg_cmp x0 x1)]) rfl rfl trivial ?_
  refine xj_if_lt rfl hf (fun hc1 hf => ?_) (fun hc1 hf => ?_)
  · refine xw_G (pc' := 18) (st' := [.int (0 : Int32)]) rfl rfl trivial ?_
    exact xr_i (inj := xji) rfl rfl rfl rfl hf hQ hS
  · refine xw_G (pc' := 7) (st' := [.long x0]) rfl rfl trivial ?_
    refine xw_G (pc' := 9) (st' := [.long x2, .long x0]) rfl rfl trivial ?_
    refine xw_G (pc' := 10) (st' := [.int (lg_cmp x0 x2)]) rfl rfl trivial ?_
    refine xj_if_gt rfl hf (fun hc2 hf => ?_) (fun hc2 hf => ?_)
    · refine xw_G (pc' := 18) (st' := [.int (0 : Int32)]) rfl rfl trivial ?_
      exact xr_i (inj := xji) rfl rfl rfl rfl hf hQ hS
    · refine xw_G (pc' := 14) (st' := [.int (1 : Int32)]) rfl rfl trivial ?_
      refine xw_G (pc' := 18) (st' := [.int (1 : Int32)]) rfl rfl trivial ?_
      exact xr_i (inj := xji) rfl rfl rfl rfl hf hQ hS
def f_X11_resetTerms_2B (N : Nat) (k21 : xm_H → Option (Unit × xm_H)) (rec : Int32 → xm_H → Option (Unit × xm_H)) (c1 : Int32) (h : xm_H) : Option (Unit × xm_H) := (if c1 < (72 : Int32) then (if xin c1 72 then (xl (xm_si h 307 (Int32.toNatClampNeg c1) (0 : Int32)) fun h3 => (rec (c1 + (1 : Int32)) h3)) else none) else (k21  h))
def f_X11_resetTerms_2 (N : Nat) (k21 : xm_H → Option (Unit × xm_H)) : Nat → Int32 → xm_H → Option (Unit × xm_H)
  | 0 => fun _ _ => none
  | n + 1 => fun c1 h => f_X11_resetTerms_2B N k21 (f_X11_resetTerms_2 N k21 n) c1 h
def f_X11_resetTerms (N : Nat) (h : xm_H) : Option (Unit × xm_H) := (f_X11_resetTerms_2 N (fun  (h1 : xm_H) => (xl (xm_si h1 307 0 (100 : Int32)) fun h2 => (xl (xm_si h2 307 1 (50 : Int32)) fun h4 => (xl (xm_si h4 307 2 (1 : Int32)) fun h6 => (xl (xm_si h6 307 3 (100 : Int32)) fun h8 => (some ((), h8))))))) N (0 : Int32) h)
theorem tl_X11_resetTerms_2 {ρ : Nat} {δ : Nat} {N : Nat} {k21 : xm_H → Option (Unit × xm_H)} {Q : xm_O → xm_H → Prop} {w : Unit × xm_H}  (hQ : xS ρ δ w.2 → Q (xjv w.1) w.2) (hk21 : ∀  (h : xm_H), xS ρ δ h → k21  h = some w → xm_W (xm_Rn xX 0) xM_X11_resetTerms Q 21 [some (.ref 302), none] [] h) : ∀ (n : Nat) (c1 : Int32) (h : xm_H), xS ρ δ h → f_X11_resetTerms_2 N k21 n c1 h = some w → xm_W (xm_Rn xX 0) xM_X11_resetTerms Q 2 [some (.ref 302), some (.int c1)] [] h := by
  intro n
  induction n with
  | zero =>
    intro c1 h hS hf
    exact (xn_e hf).elim
  | succ n ih =>
    intro c1 h hS hf
    replace hf : f_X11_resetTerms_2B N k21 (f_X11_resetTerms_2 N k21 n) c1 h = some w := hf
    unfold f_X11_resetTerms_2B at hf
    refine xw_K (pc' := 3) (ls' := [some (.ref 302), some (.int c1)]) (st' := [.int c1]) rfl rfl trivial ?_
    refine xw_G (pc' := 5) (st' := [.int (72 : Int32), .int c1]) rfl rfl trivial ?_
    refine xj_ic_ge rfl hf (fun hc1 hf => ?_) (fun hc1 hf => ?_)
    · refine xw_G (pc' := 9) (st' := [.ref 302]) rfl rfl trivial ?_
      refine xw_gr rfl (xkf (xs_k hS rfl rfl : xm_k h 302 = (11, 0))) (xs_r hS rfl) ?_
      refine xw_G (pc' := 13) (st' := [.int c1, .ref 307]) rfl rfl trivial ?_
      refine xw_G (pc' := 14) (st' := [.int (0 : Int32), .int c1, .ref 307]) rfl rfl trivial ?_
      refine xg_e hf (fun hg2 hf => ?_)
      refine xa_i rfl (xkf (xs_k hS rfl rfl : xm_k h 307 = (100, 72))) (xkn (xs_k hS rfl rfl : xm_k h 307 = (100, 72))) hg2 (Nat.le_of_ble_eq_true rfl) hf (fun h3 e4 hf => ?_)
      have hS := xS_si hS e4
      refine xw_G (pc' := 18) (ls' := [some (.ref 302), some (.int (c1 + (1 : Int32)))]) (st' := []) rfl rfl (Nat.le_of_ble_eq_true rfl) ?_
      refine xw_G (pc' := 2) (st' := []) rfl rfl trivial ?_
      refine xw_M rfl rfl ?_
      exact ih _ _ hS hf
    · refine xw_M rfl rfl ?_
      exact hk21  _ hS hf
theorem t_X11_resetTerms {N : Nat} {ρ : Nat} {δ : Nat} {h : xm_H} {w : Unit × xm_H}  (hS : xS ρ δ h) (hf : f_X11_resetTerms N h = some w) : xm_Rn xX 1 151 [.ref 302] h (xjv w.1) w.2 ∧ xS ρ δ w.2 := by
  refine xt_mk (φ := fun h => xS ρ δ h) (M := xM_X11_resetTerms) (ls := [some (.ref 302), none]) rfl (Nat.le_of_ble_eq_true rfl) rfl (fun Q hQ => ?_)
  unfold f_X11_resetTerms at hf
  refine xw_G (pc' := 1) (st' := [.int (0 : Int32)]) rfl rfl trivial ?_
  refine xw_G (pc' := 2) (ls' := [some (.ref 302), some (.int (0 : Int32))]) (st' := []) rfl rfl (Nat.le_of_ble_eq_true rfl) ?_
  refine xw_M rfl rfl ?_
  refine tl_X11_resetTerms_2  hQ (fun  h1 hS hf => ?_) _ _ _ hS hf
  refine xw_K (pc' := 22) (ls' := [some (.ref 302), none]) (st' := [.ref 302]) rfl rfl trivial ?_
  refine xw_gr rfl (xkf (xs_k hS rfl rfl : xm_k h1 302 = (11, 0))) (xs_r hS rfl) ?_
  refine xw_G (pc' := 26) (st' := [.int (0 : Int32), .ref 307]) rfl rfl trivial ?_
  refine xw_G (pc' := 28) (st' := [.int (100 : Int32), .int (0 : Int32), .ref 307]) rfl rfl trivial ?_
  refine xa_i rfl (xkf (xs_k hS rfl rfl : xm_k h1 307 = (100, 72))) (xkn (xs_k hS rfl rfl : xm_k h1 307 = (100, 72))) (by decide : xin (0 : Int32) 72) (Nat.le_of_ble_eq_true rfl) hf (fun h2 e3 hf => ?_)
  have hS := xS_si hS e3
  refine xw_G (pc' := 30) (st' := [.ref 302]) rfl rfl trivial ?_
  refine xw_gr rfl (xkf (xs_k hS rfl rfl : xm_k h2 302 = (11, 0))) (xs_r hS rfl) ?_
  refine xw_G (pc' := 34) (st' := [.int (1 : Int32), .ref 307]) rfl rfl trivial ?_
  refine xw_G (pc' := 36) (st' := [.int (50 : Int32), .int (1 : Int32), .ref 307]) rfl rfl trivial ?_
  refine xa_i rfl (xkf (xs_k hS rfl rfl : xm_k h2 307 = (100, 72))) (xkn (xs_k hS rfl rfl : xm_k h2 307 = (100, 72))) (by decide : xin (1 : Int32) 72) (Nat.le_of_ble_eq_true rfl) hf (fun h4 e5 hf => ?_)
  have hS := xS_si hS e5
  refine xw_G (pc' := 38) (st' := [.ref 302]) rfl rfl trivial ?_
  refine xw_gr rfl (xkf (xs_k hS rfl rfl : xm_k h4 302 = (11, 0))) (xs_r hS rfl) ?_
  refine xw_G (pc' := 42) (st' := [.int (2 : Int32), .ref 307]) rfl rfl trivial ?_
  refine xw_G (pc' := 43) (st' := [.int (1 : Int32), .int (2 : Int32), .ref 307]) rfl rfl trivial ?_
  refine xa_i rfl (xkf (xs_k hS rfl rfl : xm_k h4 307 = (100, 72))) (xkn (xs_k hS rfl rfl : xm_k h4 307 = (100, 72))) (by decide : xin (2 : Int32) 72) (Nat.le_of_ble_eq_true rfl) hf (fun h6 e7 hf => ?_)
  have hS := xS_si hS e7
  refine xw_G (pc' := 45) (st' := [.ref 302]) rfl rfl trivial ?_
  refine xw_gr rfl (xkf (xs_k hS rfl rfl : xm_k h6 302 = (11, 0))) (xs_r hS rfl) ?_
  refine xw_G (pc' := 49) (st' := [.int (3 : Int32), .ref 307]) rfl rfl trivial ?_
  refine xw_G (pc' := 51) (st' := [.int (100 : Int32), .int (3 : Int32), .ref 307]) rfl rfl trivial ?_
  refine xa_i rfl (xkf (xs_k hS rfl rfl : xm_k h6 307 = (100, 72))) (xkn (xs_k hS rfl rfl : xm_k h6 307 = (100, 72))) (by decide : xin (3 : Int32) 72) (Nat.le_of_ble_eq_true rfl) hf (fun h8 e9 hf => ?_)
  have hS := xS_si hS e9
  exact xr_v (inj := xjv) rfl rfl hf hQ hS
def f_X11_byteAt (x1 : Int32) (h : xm_H) : Option (Int32 × xm_H) := (if x1 < (xm_i h 302 9) then (if xin x1 600 then (some (xm_i h 306 (Int32.toNatClampNeg x1), h)) else none) else (some ((-1 : Int32), h)))
theorem t_X11_byteAt {ρ : Nat} {δ : Nat} {x1 : Int32} {h : xm_H} {w : Int32 × xm_H}  (hS : xS ρ δ h) (hf : f_X11_byteAt x1 h = some w) : xm_Rn xX 1 142 [.ref 302, .int x1] h (xji w.1) w.2 ∧ xS ρ δ w.2 := by
  refine xt_mk (φ := fun h => xS ρ δ h) (M := xM_X11_byteAt) (ls := [some (.ref 302), some (.int x1)]) rfl (Nat.le_of_ble_eq_true rfl) rfl (fun Q hQ => ?_)
  unfold f_X11_byteAt at hf
  refine xw_G (pc' := 1) (st' := [.int x1]) rfl rfl trivial ?_
  refine xw_G (pc' := 2) (st' := [.ref 302, .int x1]) rfl rfl trivial ?_
  refine xw_G (pc' := 5) (st' := [.int (xm_i h 302 9), .int x1]) rfl rfl (xkf (xs_k hS rfl rfl : xm_k h 302 = (11, 0))) ?_
  refine xj_ic_ge rfl hf (fun hc1 hf => ?_) (fun hc1 hf => ?_)
  · refine xw_G (pc' := 9) (st' := [.ref 302]) rfl rfl trivial ?_
    refine xw_gr rfl (xkf (xs_k hS rfl rfl : xm_k h 302 = (11, 0))) (xs_r hS rfl) ?_
    refine xw_G (pc' := 13) (st' := [.int x1, .ref 306]) rfl rfl trivial ?_
    refine xg_e hf (fun hg2 hf => ?_)
    refine xa_ld (t := 100) (τ := 0) (v := .int (xm_i h 306 (Int32.toNatClampNeg x1))) rfl rfl (xkf (xs_k hS rfl rfl : xm_k h 306 = (100, 600))) (xkn (xs_k hS rfl rfl : xm_k h 306 = (100, 600))) hg2 rfl ?_
    refine xw_G (pc' := 18) (st' := [.int (xm_i h 306 (Int32.toNatClampNeg x1))]) rfl rfl trivial ?_
    exact xr_i (inj := xji) rfl rfl rfl rfl hf hQ hS
  · refine xw_G (pc' := 18) (st' := [.int (-1 : Int32)]) rfl rfl trivial ?_
    exact xr_i (inj := xji) rfl rfl rfl rfl hf hQ hS
def f_X11_isLetter (x0 : Int32) (h : xm_H) : Option (Int32 × xm_H) := (if x0 < (97 : Int32) then (some ((0 : Int32), h)) else (if (122 : Int32) < x0 then (some ((0 : Int32), h)) else (some ((1 : Int32), h))))
theorem t_X11_isLetter {ρ : Nat} {δ : Nat} {x0 : Int32} {h : xm_H} {w : Int32 × xm_H}  (hS : xS ρ δ h) (hf : f_X11_isLetter x0 h = some w) : xm_Rn xX 1 143 [.int x0] h (xji w.1) w.2 ∧ xS ρ δ w.2 := by
  refine xt_mk (φ := fun h => xS ρ δ h) (M := xM_X11_isLetter) (ls := [some (.int x0)]) rfl (Nat.le_of_ble_eq_true rfl) rfl (fun Q hQ => ?_)
  unfold f_X11_isLetter at hf
  refine xw_G (pc' := 1) (st' := [.int x0]) rfl rfl trivial ?_
  refine xw_G (pc' := 3) (st' := [.int (97 : Int32), .int x0]) rfl rfl trivial ?_
  refine xj_ic_lt rfl hf (fun hc1 hf => ?_) (fun hc1 hf => ?_)
  · refine xw_G (pc' := 17) (st' := [.int (0 : Int32)]) rfl rfl trivial ?_
    exact xr_i (inj := xji) rfl rfl rfl rfl hf hQ hS
  · refine xw_G (pc' := 7) (st' := [.int x0]) rfl rfl trivial ?_
    refine xw_G (pc' := 9) (st' := [.int (122 : Int32), .int x0]) rfl rfl trivial ?_
    refine xj_ic_gt rfl hf (fun hc2 hf => ?_) (fun hc2 hf => ?_)
    · refine xw_G (pc' := 17) (st' := [.int (0 : Int32)]) rfl rfl trivial ?_
      exact xr_i (inj := xji) rfl rfl rfl rfl hf hQ hS
    · refine xw_G (pc' := 13) (st' := [.int (1 : Int32)]) rfl rfl trivial ?_
      refine xw_G (pc' := 17) (st' := [.int (1 : Int32)]) rfl rfl trivial ?_
      exact xr_i (inj := xji) rfl rfl rfl rfl hf hQ hS
def f_X11_isDigit (x0 : Int32) (h : xm_H) : Option (Int32 × xm_H) := (if x0 < (48 : Int32) then (some ((0 : Int32), h)) else (if (57 : Int32) < x0 then (some ((0 : Int32), h)) else (some ((1 : Int32), h))))
theorem t_X11_isDigit {ρ : Nat} {δ : Nat} {x0 : Int32} {h : xm_H} {w : Int32 × xm_H}  (hS : xS ρ δ h) (hf : f_X11_isDigit x0 h = some w) : xm_Rn xX 1 144 [.int x0] h (xji w.1) w.2 ∧ xS ρ δ w.2 := by
  refine xt_mk (φ := fun h => xS ρ δ h) (M := xM_X11_isDigit) (ls := [some (.int x0)]) rfl (Nat.le_of_ble_eq_true rfl) rfl (fun Q hQ => ?_)
  unfold f_X11_isDigit at hf
  refine xw_G (pc' := 1) (st' := [.int x0]) rfl rfl trivial ?_
  refine xw_G (pc' := 3) (st' := [.int (48 : Int32), .int x0]) rfl rfl trivial ?_
  refine xj_ic_lt rfl hf (fun hc1 hf => ?_) (fun hc1 hf => ?_)
  · refine xw_G (pc' := 17) (st' := [.int (0 : Int32)]) rfl rfl trivial ?_
    exact xr_i (inj := xji) rfl rfl rfl rfl hf hQ hS
  · refine xw_G (pc' := 7) (st' := [.int x0]) rfl rfl trivial ?_
    refine xw_G (pc' := 9) (st' := [.int (57 : Int32), .int x0]) rfl rfl trivial ?_
    refine xj_ic_gt rfl hf (fun hc2 hf => ?_) (fun hc2 hf => ?_)
    · refine xw_G (pc' := 17) (st' := [.int (0 : Int32)]) rfl rfl trivial ?_
      exact xr_i (inj := xji) rfl rfl rfl rfl hf hQ hS
    · refine xw_G (pc' := 13) (st' := [.int (1 : Int32)]) rfl rfl trivial ?_
      refine xw_G (pc' := 17) (st' := [.int (1 : Int32)]) rfl rfl trivial ?_
      exact xr_i (inj := xji) rfl rfl rfl rfl hf hQ hS
def f_X11_advance_0B (N : Nat) (k39 : xm_H → Option (Int32 × xm_H)) (rec : xm_H → Option (Int32 × xm_H))  (h : xm_H) : Option (Int32 × xm_H) := (xb (f_X11_byteAt (xm_i h 302 11) h) fun v1 h2 => (if v1 = (32 : Int32) then (xl (xm_si h2 302 11 ((xm_i h2 302 11) + (1 : Int32))) fun h5 => (rec  h5)) else (xb (f_X11_byteAt (xm_i h2 302 11) h2) fun v7 h8 => (if v7 = (10 : Int32) then (xl (xm_si h8 302 11 ((xm_i h8 302 11) + (1 : Int32))) fun h11 => (rec  h11)) else (k39  h8)))))
def f_X11_advance_0 (N : Nat) (k39 : xm_H → Option (Int32 × xm_H)) : Nat → xm_H → Option (Int32 × xm_H)
  | 0 => fun  _ => none
  | n + 1 => fun  h => f_X11_advance_0B N k39 (f_X11_advance_0 N k39 n)  h
def f_X11_advance_193B (N : Nat) (k263 : xm_H → Option (Int32 × xm_H)) (rec : xm_H → Option (Int32 × xm_H))  (h : xm_H) : Option (Int32 × xm_H) := (xb (f_X11_byteAt (xm_i h 302 11) h) fun v1 h2 => (xb (f_X11_isDigit v1 h2) fun v4 h5 => (if v4 = 0 then (k263  h5) else (if ((xm_i h5 302 11) - (xm_i h5 302 10)) < (4 : Int32) then (xb (f_X11_byteAt (xm_i h5 302 11) h5) fun v9 h10 => (xl (xm_si h10 302 13 ((((10 : Int32) * (xm_i h5 302 13)) + v9) - (48 : Int32))) fun h12 => (xl (xm_si h12 302 11 ((xm_i h12 302 11) + (1 : Int32))) fun h14 => (rec  h14)))) else (xl (xm_si h5 302 13 (xm_i h5 302 13)) fun h16 => (xl (xm_si h16 302 11 ((xm_i h16 302 11) + (1 : Int32))) fun h18 => (rec  h18)))))))
def f_X11_advance_193 (N : Nat) (k263 : xm_H → Option (Int32 × xm_H)) : Nat → xm_H → Option (Int32 × xm_H)
  | 0 => fun  _ => none
  | n + 1 => fun  h => f_X11_advance_193B N k263 (f_X11_advance_193 N k263 n)  h
def f_X11_advance_81B (N : Nat) (k155 : xm_H → Option (Int32 × xm_H)) (rec : xm_H → Option (Int32 × xm_H))  (h : xm_H) : Option (Int32 × xm_H) := (xb (f_X11_byteAt (xm_i h 302 11) h) fun v1 h2 => (xb (f_X11_isLetter v1 h2) fun v4 h5 => (if v4 = 0 then (k155  h5) else (if ((xm_i h5 302 11) - (xm_i h5 302 10)) < (10 : Int32) then (xb (f_X11_byteAt (xm_i h5 302 11) h5) fun v9 h10 => (xl (xm_sl h10 302 16 ((((32 : Int64) * (xm_l h5 302 16)) + (Int32.toInt64 v9)) - (96 : Int64))) fun h12 => (xl (xm_si h12 302 11 ((xm_i h12 302 11) + (1 : Int32))) fun h14 => (rec  h14)))) else (xl (xm_sl h5 302 16 (xm_l h5 302 16)) fun h16 => (xl (xm_si h16 302 11 ((xm_i h16 302 11) + (1 : Int32))) fun h18 => (rec  h18)))))))
def f_X11_advance_81 (N : Nat) (k155 : xm_H → Option (Int32 × xm_H)) : Nat → xm_H → Option (Int32 × xm_H)
  | 0 => fun  _ => none
  | n + 1 => fun  h => f_X11_advance_81B N k155 (f_X11_advance_81 N k155 n)  h
def f_X11_advance (N : Nat) (h : xm_H) : Option (Int32 × xm_H) := (f_X11_advance_0 N (fun  (h1 : xm_H) => (xl (xm_si h1 302 10 (xm_i h1 302 11)) fun h2 => (xl (xm_sl h2 302 16 (0 : Int64)) fun h4 => (xb (f_X11_byteAt (xm_i h4 302 11) h4) fun v6 h7 => (if v6 = (-1 : Int32) then (xl (xm_si h7 302 12 (0 : Int32)) fun h10 => (some ((1 : Int32), h10))) else (xb (f_X11_isLetter v6 h7) fun v12 h13 => (if v12 = 0 then (xb (f_X11_isDigit v6 h13) fun v16 h17 => (if v16 = 0 then (xl (xm_si h17 302 11 ((xm_i h17 302 11) + (1 : Int32))) fun h20 => (if v6 = (59 : Int32) then (xl (xm_si h20 302 12 (4 : Int32)) fun h23 => (some ((1 : Int32), h23))) else (xl (xm_si h20 302 12 (1 : Int32)) fun h25 => (some ((1 : Int32), h25))))) else (xl (xm_si h17 302 13 (0 : Int32)) fun h27 => (f_X11_advance_193 N (fun  (h29 : xm_H) => (if (4 : Int32) < ((xm_i h29 302 11) - (xm_i h29 302 10)) then (xl (xm_si h29 302 12 (1 : Int32)) fun h31 => (some ((1 : Int32), h31))) else (xl (xm_si h29 302 12 (3 : Int32)) fun h33 => (some ((1 : Int32), h33))))) N  h27)))) else (f_X11_advance_81 N (fun  (h35 : xm_H) => (if (10 : Int32) < ((xm_i h35 302 11) - (xm_i h35 302 10)) then (xl (xm_si h35 302 12 (1 : Int32)) fun h37 => (some ((1 : Int32), h37))) else (xl (xm_si h35 302 12 (2 : Int32)) fun h39 => (some ((1 : Int32), h39))))) N  h13)))))))) N  h)
theorem tl_X11_advance_0 {ρ : Nat} {δ : Nat} {N : Nat} {k39 : xm_H → Option (Int32 × xm_H)} {Q : xm_O → xm_H → Prop} {w : Int32 × xm_H}  (hQ : xS ρ δ w.2 → Q (xji w.1) w.2) (hk39 : ∀  (h : xm_H), xS ρ δ h → k39  h = some w → xm_W (xm_Rn xX 1) xM_X11_advance Q 39 [some (.ref 302), none] [] h) : ∀ (n : Nat)  (h : xm_H), xS ρ δ h → f_X11_advance_0 N k39 n  h = some w → xm_W (xm_Rn xX 1) xM_X11_advance Q 0 [some (.ref 302), none] [] h := by
  intro n
  induction n with
  | zero =>
    intro  h hS hf
    exact (xn_e hf).elim
  | succ n ih =>
    intro  h hS hf
    replace hf : f_X11_advance_0B N k39 (f_X11_advance_0 N k39 n)  h = some w := hf
    unfold f_X11_advance_0B at hf
    refine xw_K (pc' := 1) (ls' := [some (.ref 302), none]) (st' := [.ref 302]) rfl rfl trivial ?_
    refine xw_G (pc' := 2) (st' := [.ref 302, .ref 302]) rfl rfl trivial ?_
    refine xw_G (pc' := 5) (st' := [.int (xm_i h 302 11), .ref 302]) rfl rfl (xkf (xs_k hS rfl rfl : xm_k h 302 = (11, 0))) ?_
    refine xb_e hf (fun v1 h2 e3 hf => ?_)
    refine xw_V (v := some (.int v1)) rfl rfl (xkf (xs_k hS rfl rfl : xm_k h 302 = (11, 0))) (Nat.le_of_ble_eq_true rfl) (Nat.le_of_ble_eq_true rfl) (xm_Rn_le (Nat.le_of_ble_eq_true rfl) (t_X11_byteAt  hS e3).1) ?_
    have hS := (t_X11_byteAt  hS e3).2
    show xm_W _ _ _ 8 _ [.int v1] _
    refine xw_G (pc' := 10) (st' := [.int (32 : Int32), .int v1]) rfl rfl trivial ?_
    refine xj_ic_eq rfl hf (fun hc4 hf => ?_) (fun hc4 hf => ?_)
    · refine xw_G (pc' := 27) (st' := [.ref 302]) rfl rfl trivial ?_
      refine xw_G (pc' := 28) (st' := [.ref 302, .ref 302]) rfl rfl rfl ?_
      refine xw_G (pc' := 31) (st' := [.int (xm_i h2 302 11), .ref 302]) rfl rfl (xkf (xs_k hS rfl rfl : xm_k h2 302 = (11, 0))) ?_
      refine xw_G (pc' := 32) (st' := [.int (1 : Int32), .int (xm_i h2 302 11), .ref 302]) rfl rfl trivial ?_
      refine xw_G (pc' := 33) (st' := [.int ((xm_i h2 302 11) + (1 : Int32)), .ref 302]) rfl rfl trivial ?_
      refine xp_i rfl (xkf (xs_k hS rfl rfl : xm_k h2 302 = (11, 0))) (Nat.le_of_ble_eq_true rfl) hf (fun h5 e6 hf => ?_)
      have hS := xS_si hS e6
      refine xw_G (pc' := 0) (st' := []) rfl rfl trivial ?_
      refine xw_M rfl rfl ?_
      exact ih  _ hS hf
    · refine xw_G (pc' := 14) (st' := [.ref 302]) rfl rfl trivial ?_
      refine xw_G (pc' := 15) (st' := [.ref 302, .ref 302]) rfl rfl trivial ?_
      refine xw_G (pc' := 18) (st' := [.int (xm_i h2 302 11), .ref 302]) rfl rfl (xkf (xs_k hS rfl rfl : xm_k h2 302 = (11, 0))) ?_
      refine xb_e hf (fun v7 h8 e9 hf => ?_)
      refine xw_V (v := some (.int v7)) rfl rfl (xkf (xs_k hS rfl rfl : xm_k h2 302 = (11, 0))) (Nat.le_of_ble_eq_true rfl) (Nat.le_of_ble_eq_true rfl) (xm_Rn_le (Nat.le_of_ble_eq_true rfl) (t_X11_byteAt  hS e9).1) ?_
      have hS := (t_X11_byteAt  hS e9).2
      show xm_W _ _ _ 21 _ [.int v7] _
      refine xw_G (pc' := 23) (st' := [.int (10 : Int32), .int v7]) rfl rfl trivial ?_
      refine xj_ic_ne rfl hf (fun hc10 hf => ?_) (fun hc10 hf => ?_)
      · refine xw_G (pc' := 27) (st' := [.ref 302]) rfl rfl trivial ?_
        refine xw_G (pc' := 28) (st' := [.ref 302, .ref 302]) rfl rfl rfl ?_
        refine xw_G (pc' := 31) (st' := [.int (xm_i h8 302 11), .ref 302]) rfl rfl (xkf (xs_k hS rfl rfl : xm_k h8 302 = (11, 0))) ?_
        refine xw_G (pc' := 32) (st' := [.int (1 : Int32), .int (xm_i h8 302 11), .ref 302]) rfl rfl trivial ?_
        refine xw_G (pc' := 33) (st' := [.int ((xm_i h8 302 11) + (1 : Int32)), .ref 302]) rfl rfl trivial ?_
        refine xp_i rfl (xkf (xs_k hS rfl rfl : xm_k h8 302 = (11, 0))) (Nat.le_of_ble_eq_true rfl) hf (fun h11 e12 hf => ?_)
        have hS := xS_si hS e12
        refine xw_G (pc' := 0) (st' := []) rfl rfl trivial ?_
        refine xw_M rfl rfl ?_
        exact ih  _ hS hf
      · refine xw_M rfl rfl ?_
        exact hk39  _ hS hf
theorem tl_X11_advance_193 {ρ : Nat} {δ : Nat} {N : Nat} {k263 : xm_H → Option (Int32 × xm_H)} {Q : xm_O → xm_H → Prop} {w : Int32 × xm_H}  (hQ : xS ρ δ w.2 → Q (xji w.1) w.2) (hk263 : ∀  (h : xm_H), xS ρ δ h → k263  h = some w → xm_W (xm_Rn xX 1) xM_X11_advance Q 263 [some (.ref 302), none] [] h) : ∀ (n : Nat)  (h : xm_H), xS ρ δ h → f_X11_advance_193 N k263 n  h = some w → xm_W (xm_Rn xX 1) xM_X11_advance Q 193 [some (.ref 302), none] [] h := by
  intro n
  induction n with
  | zero =>
    intro  h hS hf
    exact (xn_e hf).elim
  | succ n ih =>
    intro  h hS hf
    replace hf : f_X11_advance_193B N k263 (f_X11_advance_193 N k263 n)  h = some w := hf
    unfold f_X11_advance_193B at hf
    refine xw_K (pc' := 194) (ls' := [some (.ref 302), none]) (st' := [.ref 302]) rfl rfl trivial ?_
    refine xw_G (pc' := 195) (st' := [.ref 302, .ref 302]) rfl rfl trivial ?_
    refine xw_G (pc' := 198) (st' := [.int (xm_i h 302 11), .ref 302]) rfl rfl (xkf (xs_k hS rfl rfl : xm_k h 302 = (11, 0))) ?_
    refine xb_e hf (fun v1 h2 e3 hf => ?_)
    refine xw_V (v := some (.int v1)) rfl rfl (xkf (xs_k hS rfl rfl : xm_k h 302 = (11, 0))) (Nat.le_of_ble_eq_true rfl) (Nat.le_of_ble_eq_true rfl) (xm_Rn_le (Nat.le_of_ble_eq_true rfl) (t_X11_byteAt  hS e3).1) ?_
    have hS := (t_X11_byteAt  hS e3).2
    show xm_W _ _ _ 201 _ [.int v1] _
    refine xb_e hf (fun v4 h5 e6 hf => ?_)
    refine xw_S (v := some (.int v4)) rfl (Nat.le_of_ble_eq_true rfl) (Nat.le_of_ble_eq_true rfl) (xm_Rn_le (Nat.le_of_ble_eq_true rfl) (t_X11_isDigit  hS e6).1) ?_
    have hS := (t_X11_isDigit  hS e6).2
    show xm_W _ _ _ 204 _ [.int v4] _
    refine xj_if_eq rfl hf (fun hc7 hf => ?_) (fun hc7 hf => ?_)
    · refine xw_M rfl rfl ?_
      exact hk263  _ hS hf
    · refine xw_G (pc' := 208) (st' := [.ref 302]) rfl rfl trivial ?_
      refine xw_G (pc' := 209) (st' := [.ref 302, .ref 302]) rfl rfl trivial ?_
      refine xw_G (pc' := 212) (st' := [.int (xm_i h5 302 11), .ref 302]) rfl rfl (xkf (xs_k hS rfl rfl : xm_k h5 302 = (11, 0))) ?_
      refine xw_G (pc' := 213) (st' := [.ref 302, .int (xm_i h5 302 11), .ref 302]) rfl rfl trivial ?_
      refine xw_G (pc' := 216) (st' := [.int (xm_i h5 302 10), .int (xm_i h5 302 11), .ref 302]) rfl rfl (xkf (xs_k hS rfl rfl : xm_k h5 302 = (11, 0))) ?_
      refine xw_G (pc' := 217) (st' := [.int ((xm_i h5 302 11) - (xm_i h5 302 10)), .ref 302]) rfl rfl trivial ?_
      refine xw_G (pc' := 218) (st' := [.int (4 : Int32), .int ((xm_i h5 302 11) - (xm_i h5 302 10)), .ref 302]) rfl rfl trivial ?_
      refine xj_ic_ge rfl hf (fun hc8 hf => ?_) (fun hc8 hf => ?_)
      · refine xw_G (pc' := 223) (st' := [.int (10 : Int32), .ref 302]) rfl rfl trivial ?_
        refine xw_G (pc' := 224) (st' := [.ref 302, .int (10 : Int32), .ref 302]) rfl rfl trivial ?_
        refine xw_G (pc' := 227) (st' := [.int (xm_i h5 302 13), .int (10 : Int32), .ref 302]) rfl rfl (xkf (xs_k hS rfl rfl : xm_k h5 302 = (11, 0))) ?_
        refine xw_G (pc' := 228) (st' := [.int ((10 : Int32) * (xm_i h5 302 13)), .ref 302]) rfl rfl trivial ?_
        refine xw_G (pc' := 229) (st' := [.ref 302, .int ((10 : Int32) * (xm_i h5 302 13)), .ref 302]) rfl rfl trivial ?_
        refine xw_G (pc' := 230) (st' := [.ref 302, .ref 302, .int ((10 : Int32) * (xm_i h5 302 13)), .ref 302]) rfl rfl trivial ?_
        refine xw_G (pc' := 233) (st' := [.int (xm_i h5 302 11), .ref 302, .int ((10 : Int32) * (xm_i h5 302 13)), .ref 302]) rfl rfl (xkf (xs_k hS rfl rfl : xm_k h5 302 = (11, 0))) ?_
        refine xb_e hf (fun v9 h10 e11 hf => ?_)
        refine xw_V (v := some (.int v9)) rfl rfl (xkf (xs_k hS rfl rfl : xm_k h5 302 = (11, 0))) (Nat.le_of_ble_eq_true rfl) (Nat.le_of_ble_eq_true rfl) (xm_Rn_le (Nat.le_of_ble_eq_true rfl) (t_X11_byteAt  hS e11).1) ?_
        have hS := (t_X11_byteAt  hS e11).2
        show xm_W _ _ _ 236 _ [.int v9, .int ((10 : Int32) * (xm_i h5 302 13)), .ref 302] _
        refine xw_G (pc' := 237) (st' := [.int (((10 : Int32) * (xm_i h5 302 13)) + v9), .ref 302]) rfl rfl trivial ?_
        refine xw_G (pc' := 239) (st' := [.int (48 : Int32), .int (((10 : Int32) * (xm_i h5 302 13)) + v9), .ref 302]) rfl rfl trivial ?_
        refine xw_G (pc' := 240) (st' := [.int ((((10 : Int32) * (xm_i h5 302 13)) + v9) - (48 : Int32)), .ref 302]) rfl rfl trivial ?_
        refine xw_G (pc' := 247) (st' := [.int ((((10 : Int32) * (xm_i h5 302 13)) + v9) - (48 : Int32)), .ref 302]) rfl rfl trivial ?_
        refine xp_i rfl (xkf (xs_k hS rfl rfl : xm_k h10 302 = (11, 0))) (Nat.le_of_ble_eq_true rfl) hf (fun h12 e13 hf => ?_)
        have hS := xS_si hS e13
        refine xw_G (pc' := 251) (st' := [.ref 302]) rfl rfl trivial ?_
        refine xw_G (pc' := 252) (st' := [.ref 302, .ref 302]) rfl rfl rfl ?_
        refine xw_G (pc' := 255) (st' := [.int (xm_i h12 302 11), .ref 302]) rfl rfl (xkf (xs_k hS rfl rfl : xm_k h12 302 = (11, 0))) ?_
        refine xw_G (pc' := 256) (st' := [.int (1 : Int32), .int (xm_i h12 302 11), .ref 302]) rfl rfl trivial ?_
        refine xw_G (pc' := 257) (st' := [.int ((xm_i h12 302 11) + (1 : Int32)), .ref 302]) rfl rfl trivial ?_
        refine xp_i rfl (xkf (xs_k hS rfl rfl : xm_k h12 302 = (11, 0))) (Nat.le_of_ble_eq_true rfl) hf (fun h14 e15 hf => ?_)
        have hS := xS_si hS e15
        refine xw_G (pc' := 193) (st' := []) rfl rfl trivial ?_
        refine xw_M rfl rfl ?_
        exact ih  _ hS hf
      · refine xw_G (pc' := 244) (st' := [.ref 302, .ref 302]) rfl rfl trivial ?_
        refine xw_G (pc' := 247) (st' := [.int (xm_i h5 302 13), .ref 302]) rfl rfl (xkf (xs_k hS rfl rfl : xm_k h5 302 = (11, 0))) ?_
        refine xp_i rfl (xkf (xs_k hS rfl rfl : xm_k h5 302 = (11, 0))) (Nat.le_of_ble_eq_true rfl) hf (fun h16 e17 hf => ?_)
        have hS := xS_si hS e17
        refine xw_G (pc' := 251) (st' := [.ref 302]) rfl rfl trivial ?_
        refine xw_G (pc' := 252) (st' := [.ref 302, .ref 302]) rfl rfl rfl ?_
        refine xw_G (pc' := 255) (st' := [.int (xm_i h16 302 11), .ref 302]) rfl rfl (xkf (xs_k hS rfl rfl : xm_k h16 302 = (11, 0))) ?_
        refine xw_G (pc' := 256) (st' := [.int (1 : Int32), .int (xm_i h16 302 11), .ref 302]) rfl rfl trivial ?_
        refine xw_G (pc' := 257) (st' := [.int ((xm_i h16 302 11) + (1 : Int32)), .ref 302]) rfl rfl trivial ?_
        refine xp_i rfl (xkf (xs_k hS rfl rfl : xm_k h16 302 = (11, 0))) (Nat.le_of_ble_eq_true rfl) hf (fun h18 e19 hf => ?_)
        have hS := xS_si hS e19
        refine xw_G (pc' := 193) (st' := []) rfl rfl trivial ?_
        refine xw_M rfl rfl ?_
        exact ih  _ hS hf
theorem tl_X11_advance_81 {ρ : Nat} {δ : Nat} {N : Nat} {k155 : xm_H → Option (Int32 × xm_H)} {Q : xm_O → xm_H → Prop} {w : Int32 × xm_H}  (hQ : xS ρ δ w.2 → Q (xji w.1) w.2) (hk155 : ∀  (h : xm_H), xS ρ δ h → k155  h = some w → xm_W (xm_Rn xX 1) xM_X11_advance Q 155 [some (.ref 302), none] [] h) : ∀ (n : Nat)  (h : xm_H), xS ρ δ h → f_X11_advance_81 N k155 n  h = some w → xm_W (xm_Rn xX 1) xM_X11_advance Q 81 [some (.ref 302), none] [] h := by
  intro n
  induction n with
  | zero =>
    intro  h hS hf
    exact (xn_e hf).elim
  | succ n ih =>
    intro  h hS hf
    replace hf : f_X11_advance_81B N k155 (f_X11_advance_81 N k155 n)  h = some w := hf
    unfold f_X11_advance_81B at hf
    refine xw_K (pc' := 82) (ls' := [some (.ref 302), none]) (st' := [.ref 302]) rfl rfl trivial ?_
    refine xw_G (pc' := 83) (st' := [.ref 302, .ref 302]) rfl rfl trivial ?_
    refine xw_G (pc' := 86) (st' := [.int (xm_i h 302 11), .ref 302]) rfl rfl (xkf (xs_k hS rfl rfl : xm_k h 302 = (11, 0))) ?_
    refine xb_e hf (fun v1 h2 e3 hf => ?_)
    refine xw_V (v := some (.int v1)) rfl rfl (xkf (xs_k hS rfl rfl : xm_k h 302 = (11, 0))) (Nat.le_of_ble_eq_true rfl) (Nat.le_of_ble_eq_true rfl) (xm_Rn_le (Nat.le_of_ble_eq_true rfl) (t_X11_byteAt  hS e3).1) ?_
    have hS := (t_X11_byteAt  hS e3).2
    show xm_W _ _ _ 89 _ [.int v1] _
    refine xb_e hf (fun v4 h5 e6 hf => ?_)
    refine xw_S (v := some (.int v4)) rfl (Nat.le_of_ble_eq_true rfl) (Nat.le_of_ble_eq_true rfl) (xm_Rn_le (Nat.le_of_ble_eq_true rfl) (t_X11_isLetter  hS e6).1) ?_
    have hS := (t_X11_isLetter  hS e6).2
    show xm_W _ _ _ 92 _ [.int v4] _
    refine xj_if_eq rfl hf (fun hc7 hf => ?_) (fun hc7 hf => ?_)
    · refine xw_M rfl rfl ?_
      exact hk155  _ hS hf
    · refine xw_G (pc' := 96) (st' := [.ref 302]) rfl rfl trivial ?_
      refine xw_G (pc' := 97) (st' := [.ref 302, .ref 302]) rfl rfl trivial ?_
      refine xw_G (pc' := 100) (st' := [.int (xm_i h5 302 11), .ref 302]) rfl rfl (xkf (xs_k hS rfl rfl : xm_k h5 302 = (11, 0))) ?_
      refine xw_G (pc' := 101) (st' := [.ref 302, .int (xm_i h5 302 11), .ref 302]) rfl rfl trivial ?_
      refine xw_G (pc' := 104) (st' := [.int (xm_i h5 302 10), .int (xm_i h5 302 11), .ref 302]) rfl rfl (xkf (xs_k hS rfl rfl : xm_k h5 302 = (11, 0))) ?_
      refine xw_G (pc' := 105) (st' := [.int ((xm_i h5 302 11) - (xm_i h5 302 10)), .ref 302]) rfl rfl trivial ?_
      refine xw_G (pc' := 107) (st' := [.int (10 : Int32), .int ((xm_i h5 302 11) - (xm_i h5 302 10)), .ref 302]) rfl rfl trivial ?_
      refine xj_ic_ge rfl hf (fun hc8 hf => ?_) (fun hc8 hf => ?_)
      · refine xw_G (pc' := 113) (st' := [.long (32 : Int64), .ref 302]) rfl rfl trivial ?_
        refine xw_G (pc' := 114) (st' := [.ref 302, .long (32 : Int64), .ref 302]) rfl rfl trivial ?_
        refine xw_G (pc' := 117) (st' := [.long (xm_l h5 302 16), .long (32 : Int64), .ref 302]) rfl rfl (xkf (xs_k hS rfl rfl : xm_k h5 302 = (11, 0))) ?_
        refine xw_G (pc' := 118) (st' := [.long ((32 : Int64) * (xm_l h5 302 16)), .ref 302]) rfl rfl trivial ?_
        refine xw_G (pc' := 119) (st' := [.ref 302, .long ((32 : Int64) * (xm_l h5 302 16)), .ref 302]) rfl rfl trivial ?_
        refine xw_G (pc' := 120) (st' := [.ref 302, .ref 302, .long ((32 : Int64) * (xm_l h5 302 16)), .ref 302]) rfl rfl trivial ?_
        refine xw_G (pc' := 123) (st' := [.int (xm_i h5 302 11), .ref 302, .long ((32 : Int64) * (xm_l h5 302 16)), .ref 302]) rfl rfl (xkf (xs_k hS rfl rfl : xm_k h5 302 = (11, 0))) ?_
        refine xb_e hf (fun v9 h10 e11 hf => ?_)
        refine xw_V (v := some (.int v9)) rfl rfl (xkf (xs_k hS rfl rfl : xm_k h5 302 = (11, 0))) (Nat.le_of_ble_eq_true rfl) (Nat.le_of_ble_eq_true rfl) (xm_Rn_le (Nat.le_of_ble_eq_true rfl) (t_X11_byteAt  hS e11).1) ?_
        have hS := (t_X11_byteAt  hS e11).2
        show xm_W _ _ _ 126 _ [.int v9, .long ((32 : Int64) * (xm_l h5 302 16)), .ref 302] _
        refine xw_G (pc' := 127) (st' := [.long (Int32.toInt64 v9), .long ((32 : Int64) * (xm_l h5 302 16)), .ref 302]) rfl rfl trivial ?_
        refine xw_G (pc' := 128) (st' := [.long (((32 : Int64) * (xm_l h5 302 16)) + (Int32.toInt64 v9)), .ref 302]) rfl rfl trivial ?_
        refine xw_G (pc' := 131) (st' := [.long (96 : Int64), .long (((32 : Int64) * (xm_l h5 302 16)) + (Int32.toInt64 v9)), .ref 302]) rfl rfl trivial ?_
        refine xw_G (pc' := 132) (st' := [.long ((((32 : Int64) * (xm_l h5 302 16)) + (Int32.toInt64 v9)) - (96 : Int64)), .ref 302]) rfl rfl trivial ?_
        refine xw_G (pc' := 139) (st' := [.long ((((32 : Int64) * (xm_l h5 302 16)) + (Int32.toInt64 v9)) - (96 : Int64)), .ref 302]) rfl rfl trivial ?_
        refine xp_l rfl (xkf (xs_k hS rfl rfl : xm_k h10 302 = (11, 0))) (Nat.le_of_ble_eq_true rfl) hf (fun h12 e13 hf => ?_)
        have hS := xS_sl hS e13
        refine xw_G (pc' := 143) (st' := [.ref 302]) rfl rfl trivial ?_
        refine xw_G (pc' := 144) (st' := [.ref 302, .ref 302]) rfl rfl rfl ?_
        refine xw_G (pc' := 147) (st' := [.int (xm_i h12 302 11), .ref 302]) rfl rfl (xkf (xs_k hS rfl rfl : xm_k h12 302 = (11, 0))) ?_
        refine xw_G (pc' := 148) (st' := [.int (1 : Int32), .int (xm_i h12 302 11), .ref 302]) rfl rfl trivial ?_
        refine xw_G (pc' := 149) (st' := [.int ((xm_i h12 302 11) + (1 : Int32)), .ref 302]) rfl rfl trivial ?_
        refine xp_i rfl (xkf (xs_k hS rfl rfl : xm_k h12 302 = (11, 0))) (Nat.le_of_ble_eq_true rfl) hf (fun h14 e15 hf => ?_)
        have hS := xS_si hS e15
        refine xw_G (pc' := 81) (st' := []) rfl rfl trivial ?_
        refine xw_M rfl rfl ?_
        exact ih  _ hS hf
      · refine xw_G (pc' := 136) (st' := [.ref 302, .ref 302]) rfl rfl trivial ?_
        refine xw_G (pc' := 139) (st' := [.long (xm_l h5 302 16), .ref 302]) rfl rfl (xkf (xs_k hS rfl rfl : xm_k h5 302 = (11, 0))) ?_
        refine xp_l rfl (xkf (xs_k hS rfl rfl : xm_k h5 302 = (11, 0))) (Nat.le_of_ble_eq_true rfl) hf (fun h16 e17 hf => ?_)
        have hS := xS_sl hS e17
        refine xw_G (pc' := 143) (st' := [.ref 302]) rfl rfl trivial ?_
        refine xw_G (pc' := 144) (st' := [.ref 302, .ref 302]) rfl rfl rfl ?_
        refine xw_G (pc' := 147) (st' := [.int (xm_i h16 302 11), .ref 302]) rfl rfl (xkf (xs_k hS rfl rfl : xm_k h16 302 = (11, 0))) ?_
        refine xw_G (pc' := 148) (st' := [.int (1 : Int32), .int (xm_i h16 302 11), .ref 302]) rfl rfl trivial ?_
        refine xw_G (pc' := 149) (st' := [.int ((xm_i h16 302 11) + (1 : Int32)), .ref 302]) rfl rfl trivial ?_
        refine xp_i rfl (xkf (xs_k hS rfl rfl : xm_k h16 302 = (11, 0))) (Nat.le_of_ble_eq_true rfl) hf (fun h18 e19 hf => ?_)
        have hS := xS_si hS e19
        refine xw_G (pc' := 81) (st' := []) rfl rfl trivial ?_
        refine xw_M rfl rfl ?_
        exact ih  _ hS hf
theorem t_X11_advance {N : Nat} {ρ : Nat} {δ : Nat} {h : xm_H} {w : Int32 × xm_H}  (hS : xS ρ δ h) (hf : f_X11_advance N h = some w) : xm_Rn xX 2 145 [.ref 302] h (xji w.1) w.2 ∧ xS ρ δ w.2 := by
  refine xt_mk (φ := fun h => xS ρ δ h) (M := xM_X11_advance) (ls := [some (.ref 302), none]) rfl (Nat.le_of_ble_eq_true rfl) rfl (fun Q hQ => ?_)
  unfold f_X11_advance at hf
  refine xw_M rfl rfl ?_
  refine tl_X11_advance_0  hQ (fun  h1 hS hf => ?_) _  _ hS hf
  refine xw_K (pc' := 40) (ls' := [some (.ref 302), none]) (st' := [.ref 302]) rfl rfl trivial ?_
  refine xw_G (pc' := 41) (st' := [.ref 302, .ref 302]) rfl rfl trivial ?_
  refine xw_G (pc' := 44) (st' := [.int (xm_i h1 302 11), .ref 302]) rfl rfl (xkf (xs_k hS rfl rfl : xm_k h1 302 = (11, 0))) ?_
  refine xp_i rfl (xkf (xs_k hS rfl rfl : xm_k h1 302 = (11, 0))) (Nat.le_of_ble_eq_true rfl) hf (fun h2 e3 hf => ?_)
  have hS := xS_si hS e3
  refine xw_G (pc' := 48) (st' := [.ref 302]) rfl rfl trivial ?_
  refine xw_G (pc' := 49) (st' := [.long (0 : Int64), .ref 302]) rfl rfl trivial ?_
  refine xp_l rfl (xkf (xs_k hS rfl rfl : xm_k h2 302 = (11, 0))) (Nat.le_of_ble_eq_true rfl) hf (fun h4 e5 hf => ?_)
  have hS := xS_sl hS e5
  refine xw_G (pc' := 53) (st' := [.ref 302]) rfl rfl trivial ?_
  refine xw_G (pc' := 54) (st' := [.ref 302, .ref 302]) rfl rfl trivial ?_
  refine xw_G (pc' := 57) (st' := [.int (xm_i h4 302 11), .ref 302]) rfl rfl (xkf (xs_k hS rfl rfl : xm_k h4 302 = (11, 0))) ?_
  refine xb_e hf (fun v6 h7 e8 hf => ?_)
  refine xw_V (v := some (.int v6)) rfl rfl (xkf (xs_k hS rfl rfl : xm_k h4 302 = (11, 0))) (Nat.le_of_ble_eq_true rfl) (Nat.le_of_ble_eq_true rfl) (xm_Rn_le (Nat.le_of_ble_eq_true rfl) (t_X11_byteAt  hS e8).1) ?_
  have hS := (t_X11_byteAt  hS e8).2
  show xm_W _ _ _ 60 _ [.int v6] _
  refine xw_G (pc' := 61) (ls' := [some (.ref 302), some (.int v6)]) (st' := []) rfl rfl (Nat.le_of_ble_eq_true rfl) ?_
  refine xw_G (pc' := 62) (st' := [.int v6]) rfl rfl trivial ?_
  refine xw_G (pc' := 63) (st' := [.int (-1 : Int32), .int v6]) rfl rfl trivial ?_
  refine xj_ic_ne rfl hf (fun hc9 hf => ?_) (fun hc9 hf => ?_)
  · refine xw_G (pc' := 67) (st' := [.ref 302]) rfl rfl trivial ?_
    refine xw_G (pc' := 68) (st' := [.int (0 : Int32), .ref 302]) rfl rfl trivial ?_
    refine xp_i rfl (xkf (xs_k hS rfl rfl : xm_k h7 302 = (11, 0))) (Nat.le_of_ble_eq_true rfl) hf (fun h10 e11 hf => ?_)
    have hS := xS_si hS e11
    refine xw_G (pc' := 313) (st' := []) rfl rfl trivial ?_
    refine xw_G (pc' := 314) (st' := [.int (1 : Int32)]) rfl rfl trivial ?_
    exact xr_i (inj := xji) rfl rfl rfl rfl hf hQ hS
  · refine xw_G (pc' := 75) (st' := [.int v6]) rfl rfl trivial ?_
    refine xb_e hf (fun v12 h13 e14 hf => ?_)
    refine xw_S (v := some (.int v12)) rfl (Nat.le_of_ble_eq_true rfl) (Nat.le_of_ble_eq_true rfl) (xm_Rn_le (Nat.le_of_ble_eq_true rfl) (t_X11_isLetter  hS e14).1) ?_
    have hS := (t_X11_isLetter  hS e14).2
    show xm_W _ _ _ 78 _ [.int v12] _
    refine xj_if_eq rfl hf (fun hc15 hf => ?_) (fun hc15 hf => ?_)
    · refine xw_G (pc' := 182) (st' := [.int v6]) rfl rfl trivial ?_
      refine xb_e hf (fun v16 h17 e18 hf => ?_)
      refine xw_S (v := some (.int v16)) rfl (Nat.le_of_ble_eq_true rfl) (Nat.le_of_ble_eq_true rfl) (xm_Rn_le (Nat.le_of_ble_eq_true rfl) (t_X11_isDigit  hS e18).1) ?_
      have hS := (t_X11_isDigit  hS e18).2
      show xm_W _ _ _ 185 _ [.int v16] _
      refine xj_if_eq rfl hf (fun hc19 hf => ?_) (fun hc19 hf => ?_)
      · refine xw_G (pc' := 289) (st' := [.ref 302]) rfl rfl trivial ?_
        refine xw_G (pc' := 290) (st' := [.ref 302, .ref 302]) rfl rfl rfl ?_
        refine xw_G (pc' := 293) (st' := [.int (xm_i h17 302 11), .ref 302]) rfl rfl (xkf (xs_k hS rfl rfl : xm_k h17 302 = (11, 0))) ?_
        refine xw_G (pc' := 294) (st' := [.int (1 : Int32), .int (xm_i h17 302 11), .ref 302]) rfl rfl trivial ?_
        refine xw_G (pc' := 295) (st' := [.int ((xm_i h17 302 11) + (1 : Int32)), .ref 302]) rfl rfl trivial ?_
        refine xp_i rfl (xkf (xs_k hS rfl rfl : xm_k h17 302 = (11, 0))) (Nat.le_of_ble_eq_true rfl) hf (fun h20 e21 hf => ?_)
        have hS := xS_si hS e21
        refine xw_G (pc' := 299) (st' := [.ref 302]) rfl rfl trivial ?_
        refine xw_G (pc' := 300) (st' := [.int v6, .ref 302]) rfl rfl trivial ?_
        refine xw_G (pc' := 302) (st' := [.int (59 : Int32), .int v6, .ref 302]) rfl rfl trivial ?_
        refine xj_ic_ne rfl hf (fun hc22 hf => ?_) (fun hc22 hf => ?_)
        · refine xw_G (pc' := 306) (st' := [.int (4 : Int32), .ref 302]) rfl rfl trivial ?_
          refine xw_G (pc' := 310) (st' := [.int (4 : Int32), .ref 302]) rfl rfl trivial ?_
          refine xp_i rfl (xkf (xs_k hS rfl rfl : xm_k h20 302 = (11, 0))) (Nat.le_of_ble_eq_true rfl) hf (fun h23 e24 hf => ?_)
          have hS := xS_si hS e24
          refine xw_G (pc' := 314) (st' := [.int (1 : Int32)]) rfl rfl trivial ?_
          exact xr_i (inj := xji) rfl rfl rfl rfl hf hQ hS
        · refine xw_G (pc' := 310) (st' := [.int (1 : Int32), .ref 302]) rfl rfl trivial ?_
          refine xp_i rfl (xkf (xs_k hS rfl rfl : xm_k h20 302 = (11, 0))) (Nat.le_of_ble_eq_true rfl) hf (fun h25 e26 hf => ?_)
          have hS := xS_si hS e26
          refine xw_G (pc' := 314) (st' := [.int (1 : Int32)]) rfl rfl trivial ?_
          exact xr_i (inj := xji) rfl rfl rfl rfl hf hQ hS
      · refine xw_G (pc' := 189) (st' := [.ref 302]) rfl rfl trivial ?_
        refine xw_G (pc' := 190) (st' := [.int (0 : Int32), .ref 302]) rfl rfl trivial ?_
        refine xp_i rfl (xkf (xs_k hS rfl rfl : xm_k h17 302 = (11, 0))) (Nat.le_of_ble_eq_true rfl) hf (fun h27 e28 hf => ?_)
        have hS := xS_si hS e28
        refine xw_M rfl rfl ?_
        refine tl_X11_advance_193  hQ (fun  h29 hS hf => ?_) _  _ hS hf
        refine xw_K (pc' := 264) (ls' := [some (.ref 302), none]) (st' := [.ref 302]) rfl rfl trivial ?_
        refine xw_G (pc' := 265) (st' := [.ref 302, .ref 302]) rfl rfl trivial ?_
        refine xw_G (pc' := 268) (st' := [.int (xm_i h29 302 11), .ref 302]) rfl rfl (xkf (xs_k hS rfl rfl : xm_k h29 302 = (11, 0))) ?_
        refine xw_G (pc' := 269) (st' := [.ref 302, .int (xm_i h29 302 11), .ref 302]) rfl rfl trivial ?_
        refine xw_G (pc' := 272) (st' := [.int (xm_i h29 302 10), .int (xm_i h29 302 11), .ref 302]) rfl rfl (xkf (xs_k hS rfl rfl : xm_k h29 302 = (11, 0))) ?_
        refine xw_G (pc' := 273) (st' := [.int ((xm_i h29 302 11) - (xm_i h29 302 10)), .ref 302]) rfl rfl trivial ?_
        refine xw_G (pc' := 274) (st' := [.int (4 : Int32), .int ((xm_i h29 302 11) - (xm_i h29 302 10)), .ref 302]) rfl rfl trivial ?_
        refine xj_ic_le rfl hf (fun hc30 hf => ?_) (fun hc30 hf => ?_)
        · refine xw_G (pc' := 278) (st' := [.int (1 : Int32), .ref 302]) rfl rfl trivial ?_
          refine xw_G (pc' := 282) (st' := [.int (1 : Int32), .ref 302]) rfl rfl trivial ?_
          refine xp_i rfl (xkf (xs_k hS rfl rfl : xm_k h29 302 = (11, 0))) (Nat.le_of_ble_eq_true rfl) hf (fun h31 e32 hf => ?_)
          have hS := xS_si hS e32
          refine xw_G (pc' := 313) (st' := []) rfl rfl trivial ?_
          refine xw_G (pc' := 314) (st' := [.int (1 : Int32)]) rfl rfl trivial ?_
          exact xr_i (inj := xji) rfl rfl rfl rfl hf hQ hS
        · refine xw_G (pc' := 282) (st' := [.int (3 : Int32), .ref 302]) rfl rfl trivial ?_
          refine xp_i rfl (xkf (xs_k hS rfl rfl : xm_k h29 302 = (11, 0))) (Nat.le_of_ble_eq_true rfl) hf (fun h33 e34 hf => ?_)
          have hS := xS_si hS e34
          refine xw_G (pc' := 313) (st' := []) rfl rfl trivial ?_
          refine xw_G (pc' := 314) (st' := [.int (1 : Int32)]) rfl rfl trivial ?_
          exact xr_i (inj := xji) rfl rfl rfl rfl hf hQ hS
    · refine xw_M rfl rfl ?_
      refine tl_X11_advance_81  hQ (fun  h35 hS hf => ?_) _  _ hS hf
      refine xw_K (pc' := 156) (ls' := [some (.ref 302), none]) (st' := [.ref 302]) rfl rfl trivial ?_
      refine xw_G (pc' := 157) (st' := [.ref 302, .ref 302]) rfl rfl trivial ?_
      refine xw_G (pc' := 160) (st' := [.int (xm_i h35 302 11), .ref 302]) rfl rfl (xkf (xs_k hS rfl rfl : xm_k h35 302 = (11, 0))) ?_
      refine xw_G (pc' := 161) (st' := [.ref 302, .int (xm_i h35 302 11), .ref 302]) rfl rfl trivial ?_
      refine xw_G (pc' := 164) (st' := [.int (xm_i h35 302 10), .int (xm_i h35 302 11), .ref 302]) rfl rfl (xkf (xs_k hS rfl rfl : xm_k h35 302 = (11, 0))) ?_
      refine xw_G (pc' := 165) (st' := [.int ((xm_i h35 302 11) - (xm_i h35 302 10)), .ref 302]) rfl rfl trivial ?_
      refine xw_G (pc' := 167) (st' := [.int (10 : Int32), .int ((xm_i h35 302 11) - (xm_i h35 302 10)), .ref 302]) rfl rfl trivial ?_
      refine xj_ic_le rfl hf (fun hc36 hf => ?_) (fun hc36 hf => ?_)
      · refine xw_G (pc' := 171) (st' := [.int (1 : Int32), .ref 302]) rfl rfl trivial ?_
        refine xw_G (pc' := 175) (st' := [.int (1 : Int32), .ref 302]) rfl rfl trivial ?_
        refine xp_i rfl (xkf (xs_k hS rfl rfl : xm_k h35 302 = (11, 0))) (Nat.le_of_ble_eq_true rfl) hf (fun h37 e38 hf => ?_)
        have hS := xS_si hS e38
        refine xw_G (pc' := 313) (st' := []) rfl rfl trivial ?_
        refine xw_G (pc' := 314) (st' := [.int (1 : Int32)]) rfl rfl trivial ?_
        exact xr_i (inj := xji) rfl rfl rfl rfl hf hQ hS
      · refine xw_G (pc' := 175) (st' := [.int (2 : Int32), .ref 302]) rfl rfl trivial ?_
        refine xp_i rfl (xkf (xs_k hS rfl rfl : xm_k h35 302 = (11, 0))) (Nat.le_of_ble_eq_true rfl) hf (fun h39 e40 hf => ?_)
        have hS := xS_si hS e40
        refine xw_G (pc' := 313) (st' := []) rfl rfl trivial ?_
        refine xw_G (pc' := 314) (st' := [.int (1 : Int32)]) rfl rfl trivial ?_
        exact xr_i (inj := xji) rfl rfl rfl rfl hf hQ hS
def f_X11_isWord_28B (N : Nat) (c1 : Nat) (rec : Int32 → xm_H → Option (Int32 × xm_H)) (c2 : Int32) (h : xm_H) : Option (Int32 × xm_H) := (if (xm_k h c1).1 = 12 then (xb (f_J0_length_8abf5 c1 h) fun v1 h2 => (if c2 < v1 then (if xin ((xm_i h2 302 10) + c2) 600 then (if (xm_k h2 c1).1 = 12 then (xb (f_J0_charAt_5068e c1 c2 h2) fun v7 h8 => (if (xm_i h2 306 (Int32.toNatClampNeg ((xm_i h2 302 10) + c2))) = v7 then (rec (c2 + (1 : Int32)) h8) else (some ((0 : Int32), h8)))) else none) else none) else (some ((1 : Int32), h2)))) else none)
def f_X11_isWord_28 (N : Nat) (c1 : Nat) : Nat → Int32 → xm_H → Option (Int32 × xm_H)
  | 0 => fun _ _ => none
  | n + 1 => fun c2 h => f_X11_isWord_28B N c1 (f_X11_isWord_28 N c1 n) c2 h
def f_X11_isWord (N : Nat) (x1 : Nat) (h : xm_H) : Option (Int32 × xm_H) := (if (xm_i h 302 12) = (2 : Int32) then (if (xm_k h x1).1 = 12 then (xb (f_J0_length_8abf5 x1 h) fun v2 h3 => (if ((xm_i h 302 11) - (xm_i h 302 10)) = v2 then (f_X11_isWord_28 N x1 N (0 : Int32) h3) else (some ((0 : Int32), h3)))) else none) else (some ((0 : Int32), h)))
theorem tl_X11_isWord_28 {ρ : Nat} {δ : Nat} {N : Nat} {c1 : Nat} {Q : xm_O → xm_H → Prop} {w : Int32 × xm_H}  (hQ : xS ρ δ w.2 → Q (xji w.1) w.2)  : ∀ (n : Nat) (c2 : Int32) (h : xm_H), xS ρ δ h → f_X11_isWord_28 N c1 n c2 h = some w → xm_W (xm_Rn xX 4) xM_X11_isWord Q 28 [some (.ref 302), some (.ref c1), some (.int c2)] [] h := by
  intro n
  induction n with
  | zero =>
    intro c2 h hS hf
    exact (xn_e hf).elim
  | succ n ih =>
    intro c2 h hS hf
    replace hf : f_X11_isWord_28B N c1 (f_X11_isWord_28 N c1 n) c2 h = some w := hf
    unfold f_X11_isWord_28B at hf
    refine xw_K (pc' := 29) (ls' := [some (.ref 302), some (.ref c1), some (.int c2)]) (st' := [.int c2]) rfl rfl trivial ?_
    refine xw_G (pc' := 30) (st' := [.ref c1, .int c2]) rfl rfl trivial ?_
    refine xg_e hf (fun hg4 hf => ?_)
    refine xb_e hf (fun v1 h2 e3 hf => ?_)
    refine xw_V (v := some (.int v1)) rfl rfl hg4 (Nat.le_of_ble_eq_true rfl) (Nat.le_of_ble_eq_true rfl) (xm_Rn_le (Nat.le_of_ble_eq_true rfl) (t_J0_length_8abf5  hS e3).1) ?_
    have hS := (t_J0_length_8abf5  hS e3).2
    show xm_W _ _ _ 33 _ [.int v1, .int c2] _
    refine xj_ic_ge rfl hf (fun hc5 hf => ?_) (fun hc5 hf => ?_)
    · refine xw_G (pc' := 37) (st' := [.ref 302]) rfl rfl trivial ?_
      refine xw_gr rfl (xkf (xs_k hS rfl rfl : xm_k h2 302 = (11, 0))) (xs_r hS rfl) ?_
      refine xw_G (pc' := 41) (st' := [.ref 302, .ref 306]) rfl rfl trivial ?_
      refine xw_G (pc' := 44) (st' := [.int (xm_i h2 302 10), .ref 306]) rfl rfl (xkf (xs_k hS rfl rfl : xm_k h2 302 = (11, 0))) ?_
      refine xw_G (pc' := 45) (st' := [.int c2, .int (xm_i h2 302 10), .ref 306]) rfl rfl trivial ?_
      refine xw_G (pc' := 46) (st' := [.int ((xm_i h2 302 10) + c2), .ref 306]) rfl rfl trivial ?_
      refine xg_e hf (fun hg6 hf => ?_)
      refine xa_ld (t := 100) (τ := 0) (v := .int (xm_i h2 306 (Int32.toNatClampNeg ((xm_i h2 302 10) + c2)))) rfl rfl (xkf (xs_k hS rfl rfl : xm_k h2 306 = (100, 600))) (xkn (xs_k hS rfl rfl : xm_k h2 306 = (100, 600))) hg6 rfl ?_
      refine xw_G (pc' := 48) (st' := [.ref c1, .int (xm_i h2 306 (Int32.toNatClampNeg ((xm_i h2 302 10) + c2)))]) rfl rfl trivial ?_
      refine xw_G (pc' := 49) (st' := [.int c2, .ref c1, .int (xm_i h2 306 (Int32.toNatClampNeg ((xm_i h2 302 10) + c2)))]) rfl rfl trivial ?_
      refine xg_e hf (fun hg10 hf => ?_)
      refine xb_e hf (fun v7 h8 e9 hf => ?_)
      refine xw_V (v := some (.int v7)) rfl rfl hg10 (Nat.le_of_ble_eq_true rfl) (Nat.le_of_ble_eq_true rfl) (xm_Rn_le (Nat.le_of_ble_eq_true rfl) (t_J0_charAt_5068e  hS e9).1) ?_
      have hS := (t_J0_charAt_5068e  hS e9).2
      show xm_W _ _ _ 52 _ [.int v7, .int (xm_i h2 306 (Int32.toNatClampNeg ((xm_i h2 302 10) + c2)))] _
      refine xj_ic_eq rfl hf (fun hc11 hf => ?_) (fun hc11 hf => ?_)
      · refine xw_G (pc' := 60) (ls' := [some (.ref 302), some (.ref c1), some (.int (c2 + (1 : Int32)))]) (st' := []) rfl rfl (Nat.le_of_ble_eq_true rfl) ?_
        refine xw_G (pc' := 28) (st' := []) rfl rfl trivial ?_
        refine xw_M rfl rfl ?_
        exact ih _ _ hS hf
      · refine xw_G (pc' := 56) (st' := [.int (0 : Int32)]) rfl rfl trivial ?_
        exact xr_i (inj := xji) rfl rfl rfl rfl hf hQ hS
    · refine xw_G (pc' := 64) (st' := [.int (1 : Int32)]) rfl rfl trivial ?_
      exact xr_i (inj := xji) rfl rfl rfl rfl hf hQ hS
theorem t_X11_isWord {N : Nat} {ρ : Nat} {δ : Nat} {x1 : Nat} {h : xm_H} {w : Int32 × xm_H}  (hS : xS ρ δ h) (hf : f_X11_isWord N x1 h = some w) : xm_Rn xX 5 146 [.ref 302, .ref x1] h (xji w.1) w.2 ∧ xS ρ δ w.2 := by
  refine xt_mk (φ := fun h => xS ρ δ h) (M := xM_X11_isWord) (ls := [some (.ref 302), some (.ref x1), none]) rfl (Nat.le_of_ble_eq_true rfl) rfl (fun Q hQ => ?_)
  unfold f_X11_isWord at hf
  refine xw_G (pc' := 1) (st' := [.ref 302]) rfl rfl trivial ?_
  refine xw_G (pc' := 4) (st' := [.int (xm_i h 302 12)]) rfl rfl (xkf (xs_k hS rfl rfl : xm_k h 302 = (11, 0))) ?_
  refine xw_G (pc' := 5) (st' := [.int (2 : Int32), .int (xm_i h 302 12)]) rfl rfl trivial ?_
  refine xj_ic_ne rfl hf (fun hc1 hf => ?_) (fun hc1 hf => ?_)
  · refine xw_G (pc' := 9) (st' := [.ref 302]) rfl rfl trivial ?_
    refine xw_G (pc' := 12) (st' := [.int (xm_i h 302 11)]) rfl rfl (xkf (xs_k hS rfl rfl : xm_k h 302 = (11, 0))) ?_
    refine xw_G (pc' := 13) (st' := [.ref 302, .int (xm_i h 302 11)]) rfl rfl trivial ?_
    refine xw_G (pc' := 16) (st' := [.int (xm_i h 302 10), .int (xm_i h 302 11)]) rfl rfl (xkf (xs_k hS rfl rfl : xm_k h 302 = (11, 0))) ?_
    refine xw_G (pc' := 17) (st' := [.int ((xm_i h 302 11) - (xm_i h 302 10))]) rfl rfl trivial ?_
    refine xw_G (pc' := 18) (st' := [.ref x1, .int ((xm_i h 302 11) - (xm_i h 302 10))]) rfl rfl trivial ?_
    refine xg_e hf (fun hg5 hf => ?_)
    refine xb_e hf (fun v2 h3 e4 hf => ?_)
    refine xw_V (v := some (.int v2)) rfl rfl hg5 (Nat.le_of_ble_eq_true rfl) (Nat.le_of_ble_eq_true rfl) (xm_Rn_le (Nat.le_of_ble_eq_true rfl) (t_J0_length_8abf5  hS e4).1) ?_
    have hS := (t_J0_length_8abf5  hS e4).2
    show xm_W _ _ _ 21 _ [.int v2, .int ((xm_i h 302 11) - (xm_i h 302 10))] _
    refine xj_ic_eq rfl hf (fun hc6 hf => ?_) (fun hc6 hf => ?_)
    · refine xw_G (pc' := 27) (st' := [.int (0 : Int32)]) rfl rfl trivial ?_
      refine xw_G (pc' := 28) (ls' := [some (.ref 302), some (.ref x1), some (.int (0 : Int32))]) (st' := []) rfl rfl (Nat.le_of_ble_eq_true rfl) ?_
      refine xw_M rfl rfl ?_
      refine tl_X11_isWord_28  hQ  _ _ _ hS hf
    · refine xw_G (pc' := 25) (st' := [.int (0 : Int32)]) rfl rfl trivial ?_
      exact xr_i (inj := xji) rfl rfl rfl rfl hf hQ hS
  · refine xw_G (pc' := 25) (st' := [.int (0 : Int32)]) rfl rfl trivial ?_
    exact xr_i (inj := xji) rfl rfl rfl rfl hf hQ hS
def f_X11_fail (x1 : Int32) (h : xm_H) : Option (Int32 × xm_H) := (if (xm_i h 302 12) = (1 : Int32) then (xl (xm_si h 302 14 (1 : Int32)) fun h2 => (xl (xm_si h2 302 15 (xm_i h2 302 10)) fun h4 => (some ((0 : Int32), h4)))) else (xl (xm_si h 302 14 x1) fun h6 => (xl (xm_si h6 302 15 (xm_i h6 302 10)) fun h8 => (some ((0 : Int32), h8)))))
theorem t_X11_fail {ρ : Nat} {δ : Nat} {x1 : Int32} {h : xm_H} {w : Int32 × xm_H}  (hS : xS ρ δ h) (hf : f_X11_fail x1 h = some w) : xm_Rn xX 1 147 [.ref 302, .int x1] h (xji w.1) w.2 ∧ xS ρ δ w.2 := by
  refine xt_mk (φ := fun h => xS ρ δ h) (M := xM_X11_fail) (ls := [some (.ref 302), some (.int x1)]) rfl (Nat.le_of_ble_eq_true rfl) rfl (fun Q hQ => ?_)
  unfold f_X11_fail at hf
  refine xw_G (pc' := 1) (st' := [.ref 302]) rfl rfl trivial ?_
  refine xw_G (pc' := 2) (st' := [.ref 302, .ref 302]) rfl rfl trivial ?_
  refine xw_G (pc' := 5) (st' := [.int (xm_i h 302 12), .ref 302]) rfl rfl (xkf (xs_k hS rfl rfl : xm_k h 302 = (11, 0))) ?_
  refine xw_G (pc' := 6) (st' := [.int (1 : Int32), .int (xm_i h 302 12), .ref 302]) rfl rfl trivial ?_
  refine xj_ic_ne rfl hf (fun hc1 hf => ?_) (fun hc1 hf => ?_)
  · refine xw_G (pc' := 10) (st' := [.int (1 : Int32), .ref 302]) rfl rfl trivial ?_
    refine xw_G (pc' := 14) (st' := [.int (1 : Int32), .ref 302]) rfl rfl trivial ?_
    refine xp_i rfl (xkf (xs_k hS rfl rfl : xm_k h 302 = (11, 0))) (Nat.le_of_ble_eq_true rfl) hf (fun h2 e3 hf => ?_)
    have hS := xS_si hS e3
    refine xw_G (pc' := 18) (st' := [.ref 302]) rfl rfl trivial ?_
    refine xw_G (pc' := 19) (st' := [.ref 302, .ref 302]) rfl rfl trivial ?_
    refine xw_G (pc' := 22) (st' := [.int (xm_i h2 302 10), .ref 302]) rfl rfl (xkf (xs_k hS rfl rfl : xm_k h2 302 = (11, 0))) ?_
    refine xp_i rfl (xkf (xs_k hS rfl rfl : xm_k h2 302 = (11, 0))) (Nat.le_of_ble_eq_true rfl) hf (fun h4 e5 hf => ?_)
    have hS := xS_si hS e5
    refine xw_G (pc' := 26) (st' := [.int (0 : Int32)]) rfl rfl trivial ?_
    exact xr_i (inj := xji) rfl rfl rfl rfl hf hQ hS
  · refine xw_G (pc' := 14) (st' := [.int x1, .ref 302]) rfl rfl trivial ?_
    refine xp_i rfl (xkf (xs_k hS rfl rfl : xm_k h 302 = (11, 0))) (Nat.le_of_ble_eq_true rfl) hf (fun h6 e7 hf => ?_)
    have hS := xS_si hS e7
    refine xw_G (pc' := 18) (st' := [.ref 302]) rfl rfl trivial ?_
    refine xw_G (pc' := 19) (st' := [.ref 302, .ref 302]) rfl rfl trivial ?_
    refine xw_G (pc' := 22) (st' := [.int (xm_i h6 302 10), .ref 302]) rfl rfl (xkf (xs_k hS rfl rfl : xm_k h6 302 = (11, 0))) ?_
    refine xp_i rfl (xkf (xs_k hS rfl rfl : xm_k h6 302 = (11, 0))) (Nat.le_of_ble_eq_true rfl) hf (fun h8 e9 hf => ?_)
    have hS := xS_si hS e9
    refine xw_G (pc' := 26) (st' := [.int (0 : Int32)]) rfl rfl trivial ?_
    exact xr_i (inj := xji) rfl rfl rfl rfl hf hQ hS
def f_X11_number (N : Nat) (x1 : Int32) (x2 : Int32) (h : xm_H) : Option (Int32 × xm_H) := (if (xm_i h 302 12) = (3 : Int32) then (xb (f_X11_between (Int32.toInt64 (xm_i h 302 13)) (Int32.toInt64 x1) (Int32.toInt64 x2) h) fun v2 h3 => (if v2 = 0 then (xb (f_X11_fail (3 : Int32) h3) fun v6 h7 => (if v6 = 0 ∨ v6 = 1 then (some (v6, h7)) else none)) else (xl (xm_si h3 302 17 (xm_i h3 302 13)) fun h10 => (xb (f_X11_advance N h10) fun v12 h13 => (if v12 = 0 ∨ v12 = 1 then (some (v12, h13)) else none))))) else (xb (f_X11_fail (2 : Int32) h) fun v16 h17 => (if v16 = 0 ∨ v16 = 1 then (some (v16, h17)) else none)))
theorem t_X11_number {N : Nat} {ρ : Nat} {δ : Nat} {x1 : Int32} {x2 : Int32} {h : xm_H} {w : Int32 × xm_H}  (hS : xS ρ δ h) (hf : f_X11_number N x1 x2 h = some w) : xm_Rn xX 3 148 [.ref 302, .int x1, .int x2] h (xji w.1) w.2 ∧ xS ρ δ w.2 := by
  refine xt_mk (φ := fun h => xS ρ δ h) (M := xM_X11_number) (ls := [some (.ref 302), some (.int x1), some (.int x2)]) rfl (Nat.le_of_ble_eq_true rfl) rfl (fun Q hQ => ?_)
  unfold f_X11_number at hf
  refine xw_G (pc' := 1) (st' := [.ref 302]) rfl rfl trivial ?_
  refine xw_G (pc' := 4) (st' := [.int (xm_i h 302 12)]) rfl rfl (xkf (xs_k hS rfl rfl : xm_k h 302 = (11, 0))) ?_
  refine xw_G (pc' := 5) (st' := [.int (3 : Int32), .int (xm_i h 302 12)]) rfl rfl trivial ?_
  refine xj_ic_eq rfl hf (fun hc1 hf => ?_) (fun hc1 hf => ?_)
  · refine xw_G (pc' := 15) (st' := [.ref 302]) rfl rfl trivial ?_
    refine xw_G (pc' := 18) (st' := [.int (xm_i h 302 13)]) rfl rfl (xkf (xs_k hS rfl rfl : xm_k h 302 = (11, 0))) ?_
    refine xw_G (pc' := 19) (st' := [.long (Int32.toInt64 (xm_i h 302 13))]) rfl rfl trivial ?_
    refine xw_G (pc' := 20) (st' := [.int x1, .long (Int32.toInt64 (xm_i h 302 13))]) rfl rfl trivial ?_
    refine xw_G (pc' := 21) (st' := [.long (Int32.toInt64 x1), .long (Int32.toInt64 (xm_i h 302 13))]) rfl rfl trivial ?_
    refine xw_G (pc' := 22) (st' := [.int x2, .long (Int32.toInt64 x1), .long (Int32.toInt64 (xm_i h 302 13))]) rfl rfl trivial ?_
    refine xw_G (pc' := 23) (st' := [.long (Int32.toInt64 x2), .long (Int32.toInt64 x1), .long (Int32.toInt64 (xm_i h 302 13))]) rfl rfl trivial ?_
    refine xb_e hf (fun v2 h3 e4 hf => ?_)
    refine xw_S (v := some (.int v2)) rfl (Nat.le_of_ble_eq_true rfl) (Nat.le_of_ble_eq_true rfl) (xm_Rn_le (Nat.le_of_ble_eq_true rfl) (t_X11_between  hS e4).1) ?_
    have hS := (t_X11_between  hS e4).2
    show xm_W _ _ _ 26 _ [.int v2] _
    refine xj_if_ne rfl hf (fun hc5 hf => ?_) (fun hc5 hf => ?_)
    · refine xw_G (pc' := 30) (st' := [.ref 302]) rfl rfl trivial ?_
      refine xw_G (pc' := 31) (st' := [.int (3 : Int32), .ref 302]) rfl rfl trivial ?_
      refine xb_e hf (fun v6 h7 e8 hf => ?_)
      refine xw_V (v := some (.int v6)) rfl rfl (xkf (xs_k hS rfl rfl : xm_k h3 302 = (11, 0))) (Nat.le_of_ble_eq_true rfl) (Nat.le_of_ble_eq_true rfl) (xm_Rn_le (Nat.le_of_ble_eq_true rfl) (t_X11_fail  hS e8).1) ?_
      have hS := (t_X11_fail  hS e8).2
      show xm_W _ _ _ 34 _ [.int v6] _
      refine xg_e hf (fun hg9 hf => ?_)
      exact xr_i (inj := xji) rfl rfl (xnar_z hg9).1 rfl hf hQ hS
    · refine xw_G (pc' := 36) (st' := [.ref 302]) rfl rfl trivial ?_
      refine xw_G (pc' := 37) (st' := [.ref 302, .ref 302]) rfl rfl trivial ?_
      refine xw_G (pc' := 40) (st' := [.int (xm_i h3 302 13), .ref 302]) rfl rfl (xkf (xs_k hS rfl rfl : xm_k h3 302 = (11, 0))) ?_
      refine xp_i rfl (xkf (xs_k hS rfl rfl : xm_k h3 302 = (11, 0))) (Nat.le_of_ble_eq_true rfl) hf (fun h10 e11 hf => ?_)
      have hS := xS_si hS e11
      refine xw_G (pc' := 44) (st' := [.ref 302]) rfl rfl trivial ?_
      refine xb_e hf (fun v12 h13 e14 hf => ?_)
      refine xw_V (v := some (.int v12)) rfl rfl (xkf (xs_k hS rfl rfl : xm_k h10 302 = (11, 0))) (Nat.le_of_ble_eq_true rfl) (Nat.le_of_ble_eq_true rfl) (xm_Rn_le (Nat.le_of_ble_eq_true rfl) (t_X11_advance  hS e14).1) ?_
      have hS := (t_X11_advance  hS e14).2
      show xm_W _ _ _ 47 _ [.int v12] _
      refine xg_e hf (fun hg15 hf => ?_)
      exact xr_i (inj := xji) rfl rfl (xnar_z hg15).1 rfl hf hQ hS
  · refine xw_G (pc' := 9) (st' := [.ref 302]) rfl rfl trivial ?_
    refine xw_G (pc' := 10) (st' := [.int (2 : Int32), .ref 302]) rfl rfl trivial ?_
    refine xb_e hf (fun v16 h17 e18 hf => ?_)
    refine xw_V (v := some (.int v16)) rfl rfl (xkf (xs_k hS rfl rfl : xm_k h 302 = (11, 0))) (Nat.le_of_ble_eq_true rfl) (Nat.le_of_ble_eq_true rfl) (xm_Rn_le (Nat.le_of_ble_eq_true rfl) (t_X11_fail  hS e18).1) ?_
    have hS := (t_X11_fail  hS e18).2
    show xm_W _ _ _ 13 _ [.int v16] _
    refine xg_e hf (fun hg19 hf => ?_)
    exact xr_i (inj := xji) rfl rfl (xnar_z hg19).1 rfl hf hQ hS
def f_X11_numberTo (N : Nat) (x1 : Int32) (x2 : Int32) (x3 : Int32) (h : xm_H) : Option (Int32 × xm_H) := (xb (f_X11_number N x2 x3 h) fun v1 h2 => (if v1 = 0 then (some ((0 : Int32), h2)) else (if xin x1 72 then (xl (xm_si h2 307 (Int32.toNatClampNeg x1) (xm_i h2 302 17)) fun h6 => (some ((1 : Int32), h6))) else none)))
theorem t_X11_numberTo {N : Nat} {ρ : Nat} {δ : Nat} {x1 : Int32} {x2 : Int32} {x3 : Int32} {h : xm_H} {w : Int32 × xm_H}  (hS : xS ρ δ h) (hf : f_X11_numberTo N x1 x2 x3 h = some w) : xm_Rn xX 4 149 [.ref 302, .int x1, .int x2, .int x3] h (xji w.1) w.2 ∧ xS ρ δ w.2 := by
  refine xt_mk (φ := fun h => xS ρ δ h) (M := xM_X11_numberTo) (ls := [some (.ref 302), some (.int x1), some (.int x2), some (.int x3)]) rfl (Nat.le_of_ble_eq_true rfl) rfl (fun Q hQ => ?_)
  unfold f_X11_numberTo at hf
  refine xw_G (pc' := 1) (st' := [.ref 302]) rfl rfl trivial ?_
  refine xw_G (pc' := 2) (st' := [.int x2, .ref 302]) rfl rfl trivial ?_
  refine xw_G (pc' := 3) (st' := [.int x3, .int x2, .ref 302]) rfl rfl trivial ?_
  refine xb_e hf (fun v1 h2 e3 hf => ?_)
  refine xw_V (v := some (.int v1)) rfl rfl (xkf (xs_k hS rfl rfl : xm_k h 302 = (11, 0))) (Nat.le_of_ble_eq_true rfl) (Nat.le_of_ble_eq_true rfl) (xm_Rn_le (Nat.le_of_ble_eq_true rfl) (t_X11_number  hS e3).1) ?_
  have hS := (t_X11_number  hS e3).2
  show xm_W _ _ _ 6 _ [.int v1] _
  refine xj_if_ne rfl hf (fun hc4 hf => ?_) (fun hc4 hf => ?_)
  · refine xw_G (pc' := 10) (st' := [.int (0 : Int32)]) rfl rfl trivial ?_
    exact xr_i (inj := xji) rfl rfl rfl rfl hf hQ hS
  · refine xw_G (pc' := 12) (st' := [.ref 302]) rfl rfl trivial ?_
    refine xw_gr rfl (xkf (xs_k hS rfl rfl : xm_k h2 302 = (11, 0))) (xs_r hS rfl) ?_
    refine xw_G (pc' := 16) (st' := [.int x1, .ref 307]) rfl rfl trivial ?_
    refine xw_G (pc' := 17) (st' := [.ref 302, .int x1, .ref 307]) rfl rfl trivial ?_
    refine xw_G (pc' := 20) (st' := [.int (xm_i h2 302 17), .int x1, .ref 307]) rfl rfl (xkf (xs_k hS rfl rfl : xm_k h2 302 = (11, 0))) ?_
    refine xg_e hf (fun hg5 hf => ?_)
    refine xa_i rfl (xkf (xs_k hS rfl rfl : xm_k h2 307 = (100, 72))) (xkn (xs_k hS rfl rfl : xm_k h2 307 = (100, 72))) hg5 (Nat.le_of_ble_eq_true rfl) hf (fun h6 e7 hf => ?_)
    have hS := xS_si hS e7
    refine xw_G (pc' := 22) (st' := [.int (1 : Int32)]) rfl rfl trivial ?_
    exact xr_i (inj := xji) rfl rfl rfl rfl hf hQ hS
def f_X11_ticks (N : Nat) (x1 : Int32) (h : xm_H) : Option (Int32 × xm_H) := (xb (f_X11_advance N h) fun v1 h2 => (xb (f_X11_numberTo N x1 (1 : Int32) (999 : Int32) h2) fun v4 h5 => (if v4 = 0 ∨ v4 = 1 then (some (v4, h5)) else none)))
theorem t_X11_ticks {N : Nat} {ρ : Nat} {δ : Nat} {x1 : Int32} {h : xm_H} {w : Int32 × xm_H}  (hS : xS ρ δ h) (hf : f_X11_ticks N x1 h = some w) : xm_Rn xX 5 154 [.ref 302, .int x1] h (xji w.1) w.2 ∧ xS ρ δ w.2 := by
  refine xt_mk (φ := fun h => xS ρ δ h) (M := xM_X11_ticks) (ls := [some (.ref 302), some (.int x1)]) rfl (Nat.le_of_ble_eq_true rfl) rfl (fun Q hQ => ?_)
  unfold f_X11_ticks at hf
  refine xw_G (pc' := 1) (st' := [.ref 302]) rfl rfl trivial ?_
  refine xb_e hf (fun v1 h2 e3 hf => ?_)
  refine xw_V (v := some (.int v1)) rfl rfl (xkf (xs_k hS rfl rfl : xm_k h 302 = (11, 0))) (Nat.le_of_ble_eq_true rfl) (Nat.le_of_ble_eq_true rfl) (xm_Rn_le (Nat.le_of_ble_eq_true rfl) (t_X11_advance  hS e3).1) ?_
  have hS := (t_X11_advance  hS e3).2
  show xm_W _ _ _ 4 _ [.int v1] _
  refine xw_G (pc' := 5) (st' := []) rfl rfl rfl ?_
  refine xw_G (pc' := 6) (st' := [.ref 302]) rfl rfl trivial ?_
  refine xw_G (pc' := 7) (st' := [.int x1, .ref 302]) rfl rfl trivial ?_
  refine xw_G (pc' := 8) (st' := [.int (1 : Int32), .int x1, .ref 302]) rfl rfl trivial ?_
  refine xw_G (pc' := 11) (st' := [.int (999 : Int32), .int (1 : Int32), .int x1, .ref 302]) rfl rfl trivial ?_
  refine xb_e hf (fun v4 h5 e6 hf => ?_)
  refine xw_V (v := some (.int v4)) rfl rfl (xkf (xs_k hS rfl rfl : xm_k h2 302 = (11, 0))) (Nat.le_of_ble_eq_true rfl) (Nat.le_of_ble_eq_true rfl) (xm_Rn_le (Nat.le_of_ble_eq_true rfl) (t_X11_numberTo  hS e6).1) ?_
  have hS := (t_X11_numberTo  hS e6).2
  show xm_W _ _ _ 14 _ [.int v4] _
  refine xg_e hf (fun hg7 hf => ?_)
  exact xr_i (inj := xji) rfl rfl (xnar_z hg7).1 rfl hf hQ hS
def f_X11_slotsStatement_34B (N : Nat) (k72 : xm_H → Option (Int32 × xm_H)) (k83 : xm_H → Option (Int32 × xm_H)) (rec : xm_H → Option (Int32 × xm_H))  (h : xm_H) : Option (Int32 × xm_H) := (if (xm_i h 302 12) = (3 : Int32) then (if xin (((3 : Int32) + (xm_i h 307 2)) - (1 : Int32)) 72 then (xb (f_X11_between (Int32.toInt64 (xm_i h 302 13)) (1 : Int64) (Int32.toInt64 (xm_i h 307 (Int32.toNatClampNeg (((3 : Int32) + (xm_i h 307 2)) - (1 : Int32))))) h) fun v3 h4 => (if v3 = 0 then (k72  h4) else (if (xm_i h 307 2) = (4 : Int32) then (k83  h4) else (if xin ((3 : Int32) + (xm_i h 307 2)) 72 then (xl (xm_si h4 307 (Int32.toNatClampNeg ((3 : Int32) + (xm_i h 307 2))) (xm_i h4 302 13)) fun h9 => (xl (xm_si h9 307 2 ((xm_i h9 307 2) + (1 : Int32))) fun h11 => (xb (f_X11_advance N h11) fun v13 h14 => (rec  h14)))) else none)))) else none) else (some ((1 : Int32), h)))
def f_X11_slotsStatement_34 (N : Nat) (k72 : xm_H → Option (Int32 × xm_H)) (k83 : xm_H → Option (Int32 × xm_H)) : Nat → xm_H → Option (Int32 × xm_H)
  | 0 => fun  _ => none
  | n + 1 => fun  h => f_X11_slotsStatement_34B N k72 k83 (f_X11_slotsStatement_34 N k72 k83 n)  h
def f_X11_slotsStatement (N : Nat) (h : xm_H) : Option (Int32 × xm_H) := (xb (f_X11_advance N h) fun v1 h2 => (xb (f_X11_number N (1 : Int32) (100 : Int32) h2) fun v4 h5 => (if v4 = 0 then (some ((0 : Int32), h5)) else (xl (xm_si h5 307 3 (xm_i h5 302 17)) fun h8 => (xl (xm_si h8 307 2 (1 : Int32)) fun h10 => (f_X11_slotsStatement_34 N (fun  (h12 : xm_H) => (xb (f_X11_fail (3 : Int32) h12) fun v13 h14 => (if v13 = 0 ∨ v13 = 1 then (some (v13, h14)) else none))) (fun  (h17 : xm_H) => (xb (f_X11_fail (5 : Int32) h17) fun v18 h19 => (if v18 = 0 ∨ v18 = 1 then (some (v18, h19)) else none))) N  h10))))))
theorem tl_X11_slotsStatement_34 {ρ : Nat} {δ : Nat} {N : Nat} {k72 : xm_H → Option (Int32 × xm_H)} {k83 : xm_H → Option (Int32 × xm_H)} {Q : xm_O → xm_H → Prop} {w : Int32 × xm_H}  (hQ : xS ρ δ w.2 → Q (xji w.1) w.2) (hk72 : ∀  (h : xm_H), xS ρ δ h → k72  h = some w → xm_W (xm_Rn xX 3) xM_X11_slotsStatement Q 72 [some (.ref 302), none] [] h) (hk83 : ∀  (h : xm_H), xS ρ δ h → k83  h = some w → xm_W (xm_Rn xX 3) xM_X11_slotsStatement Q 83 [some (.ref 302), none] [] h) : ∀ (n : Nat)  (h : xm_H), xS ρ δ h → f_X11_slotsStatement_34 N k72 k83 n  h = some w → xm_W (xm_Rn xX 3) xM_X11_slotsStatement Q 34 [some (.ref 302), none] [] h := by
  intro n
  induction n with
  | zero =>
    intro  h hS hf
    exact (xn_e hf).elim
  | succ n ih =>
    intro  h hS hf
    replace hf : f_X11_slotsStatement_34B N k72 k83 (f_X11_slotsStatement_34 N k72 k83 n)  h = some w := hf
    unfold f_X11_slotsStatement_34B at hf
    refine xw_K (pc' := 35) (ls' := [some (.ref 302), none]) (st' := [.ref 302]) rfl rfl trivial ?_
    refine xw_G (pc' := 38) (st' := [.int (xm_i h 302 12)]) rfl rfl (xkf (xs_k hS rfl rfl : xm_k h 302 = (11, 0))) ?_
    refine xw_G (pc' := 39) (st' := [.int (3 : Int32), .int (xm_i h 302 12)]) rfl rfl trivial ?_
    refine xj_ic_ne rfl hf (fun hc1 hf => ?_) (fun hc1 hf => ?_)
    · refine xw_G (pc' := 43) (st' := [.ref 302]) rfl rfl trivial ?_
      refine xw_gr rfl (xkf (xs_k hS rfl rfl : xm_k h 302 = (11, 0))) (xs_r hS rfl) ?_
      refine xw_G (pc' := 47) (st' := [.int (2 : Int32), .ref 307]) rfl rfl trivial ?_
      refine xa_ld (t := 100) (τ := 0) (v := .int (xm_i h 307 2)) rfl rfl (xkf (xs_k hS rfl rfl : xm_k h 307 = (100, 72))) (xkn (xs_k hS rfl rfl : xm_k h 307 = (100, 72))) (by decide : xin (2 : Int32) 72) rfl ?_
      refine xw_G (pc' := 49) (ls' := [some (.ref 302), some (.int (xm_i h 307 2))]) (st' := []) rfl rfl (Nat.le_of_ble_eq_true rfl) ?_
      refine xw_G (pc' := 50) (st' := [.ref 302]) rfl rfl trivial ?_
      refine xw_G (pc' := 53) (st' := [.int (xm_i h 302 13)]) rfl rfl (xkf (xs_k hS rfl rfl : xm_k h 302 = (11, 0))) ?_
      refine xw_G (pc' := 54) (st' := [.long (Int32.toInt64 (xm_i h 302 13))]) rfl rfl trivial ?_
      refine xw_G (pc' := 55) (st' := [.long (1 : Int64), .long (Int32.toInt64 (xm_i h 302 13))]) rfl rfl trivial ?_
      refine xw_G (pc' := 56) (st' := [.ref 302, .long (1 : Int64), .long (Int32.toInt64 (xm_i h 302 13))]) rfl rfl trivial ?_
      refine xw_gr rfl (xkf (xs_k hS rfl rfl : xm_k h 302 = (11, 0))) (xs_r hS rfl) ?_
      refine xw_G (pc' := 60) (st' := [.int (3 : Int32), .ref 307, .long (1 : Int64), .long (Int32.toInt64 (xm_i h 302 13))]) rfl rfl trivial ?_
      refine xw_G (pc' := 61) (st' := [.int (xm_i h 307 2), .int (3 : Int32), .ref 307, .long (1 : Int64), .long (Int32.toInt64 (xm_i h 302 13))]) rfl rfl trivial ?_
      refine xw_G (pc' := 62) (st' := [.int ((3 : Int32) + (xm_i h 307 2)), .ref 307, .long (1 : Int64), .long (Int32.toInt64 (xm_i h 302 13))]) rfl rfl trivial ?_
      refine xw_G (pc' := 63) (st' := [.int (1 : Int32), .int ((3 : Int32) + (xm_i h 307 2)), .ref 307, .long (1 : Int64), .long (Int32.toInt64 (xm_i h 302 13))]) rfl rfl trivial ?_
      refine xw_G (pc' := 64) (st' := [.int (((3 : Int32) + (xm_i h 307 2)) - (1 : Int32)), .ref 307, .long (1 : Int64), .long (Int32.toInt64 (xm_i h 302 13))]) rfl rfl trivial ?_
      refine xg_e hf (fun hg2 hf => ?_)
      refine xa_ld (t := 100) (τ := 0) (v := .int (xm_i h 307 (Int32.toNatClampNeg (((3 : Int32) + (xm_i h 307 2)) - (1 : Int32))))) rfl rfl (xkf (xs_k hS rfl rfl : xm_k h 307 = (100, 72))) (xkn (xs_k hS rfl rfl : xm_k h 307 = (100, 72))) hg2 rfl ?_
      refine xw_G (pc' := 66) (st' := [.long (Int32.toInt64 (xm_i h 307 (Int32.toNatClampNeg (((3 : Int32) + (xm_i h 307 2)) - (1 : Int32))))), .long (1 : Int64), .long (Int32.toInt64 (xm_i h 302 13))]) rfl rfl trivial ?_
      refine xb_e hf (fun v3 h4 e5 hf => ?_)
      refine xw_S (v := some (.int v3)) rfl (Nat.le_of_ble_eq_true rfl) (Nat.le_of_ble_eq_true rfl) (xm_Rn_le (Nat.le_of_ble_eq_true rfl) (t_X11_between  hS e5).1) ?_
      have hS := (t_X11_between  hS e5).2
      show xm_W _ _ _ 69 _ [.int v3] _
      refine xj_if_ne rfl hf (fun hc6 hf => ?_) (fun hc6 hf => ?_)
      · refine xw_M rfl rfl ?_
        exact hk72  _ hS hf
      · refine xw_G (pc' := 79) (st' := [.int (xm_i h 307 2)]) rfl rfl trivial ?_
        refine xw_G (pc' := 80) (st' := [.int (4 : Int32), .int (xm_i h 307 2)]) rfl rfl trivial ?_
        refine xj_ic_ne rfl hf (fun hc7 hf => ?_) (fun hc7 hf => ?_)
        · refine xw_M rfl rfl ?_
          exact hk83  _ hS hf
        · refine xw_G (pc' := 90) (st' := [.ref 302]) rfl rfl trivial ?_
          refine xw_gr rfl (xkf (xs_k hS rfl rfl : xm_k h4 302 = (11, 0))) (xs_r hS rfl) ?_
          refine xw_G (pc' := 94) (st' := [.int (3 : Int32), .ref 307]) rfl rfl trivial ?_
          refine xw_G (pc' := 95) (st' := [.int (xm_i h 307 2), .int (3 : Int32), .ref 307]) rfl rfl trivial ?_
          refine xw_G (pc' := 96) (st' := [.int ((3 : Int32) + (xm_i h 307 2)), .ref 307]) rfl rfl trivial ?_
          refine xw_G (pc' := 97) (st' := [.ref 302, .int ((3 : Int32) + (xm_i h 307 2)), .ref 307]) rfl rfl trivial ?_
          refine xw_G (pc' := 100) (st' := [.int (xm_i h4 302 13), .int ((3 : Int32) + (xm_i h 307 2)), .ref 307]) rfl rfl (xkf (xs_k hS rfl rfl : xm_k h4 302 = (11, 0))) ?_
          refine xg_e hf (fun hg8 hf => ?_)
          refine xa_i rfl (xkf (xs_k hS rfl rfl : xm_k h4 307 = (100, 72))) (xkn (xs_k hS rfl rfl : xm_k h4 307 = (100, 72))) hg8 (Nat.le_of_ble_eq_true rfl) hf (fun h9 e10 hf => ?_)
          have hS := xS_si hS e10
          refine xw_G (pc' := 102) (st' := [.ref 302]) rfl rfl trivial ?_
          refine xw_gr rfl (xkf (xs_k hS rfl rfl : xm_k h9 302 = (11, 0))) (xs_r hS rfl) ?_
          refine xw_G (pc' := 106) (st' := [.int (2 : Int32), .ref 307]) rfl rfl trivial ?_
          refine xw_G (pc' := 107) (st' := [.int (2 : Int32), .ref 307, .int (2 : Int32), .ref 307]) rfl rfl ⟨rfl, rfl⟩ ?_
          refine xa_ld (t := 100) (τ := 0) (v := .int (xm_i h9 307 2)) rfl rfl (xkf (xs_k hS rfl rfl : xm_k h9 307 = (100, 72))) (xkn (xs_k hS rfl rfl : xm_k h9 307 = (100, 72))) (by decide : xin (2 : Int32) 72) rfl ?_
          refine xw_G (pc' := 109) (st' := [.int (1 : Int32), .int (xm_i h9 307 2), .int (2 : Int32), .ref 307]) rfl rfl trivial ?_
          refine xw_G (pc' := 110) (st' := [.int ((xm_i h9 307 2) + (1 : Int32)), .int (2 : Int32), .ref 307]) rfl rfl trivial ?_
          refine xa_i rfl (xkf (xs_k hS rfl rfl : xm_k h9 307 = (100, 72))) (xkn (xs_k hS rfl rfl : xm_k h9 307 = (100, 72))) (by decide : xin (2 : Int32) 72) (Nat.le_of_ble_eq_true rfl) hf (fun h11 e12 hf => ?_)
          have hS := xS_si hS e12
          refine xw_G (pc' := 112) (st' := [.ref 302]) rfl rfl trivial ?_
          refine xb_e hf (fun v13 h14 e15 hf => ?_)
          refine xw_V (v := some (.int v13)) rfl rfl (xkf (xs_k hS rfl rfl : xm_k h11 302 = (11, 0))) (Nat.le_of_ble_eq_true rfl) (Nat.le_of_ble_eq_true rfl) (xm_Rn_le (Nat.le_of_ble_eq_true rfl) (t_X11_advance  hS e15).1) ?_
          have hS := (t_X11_advance  hS e15).2
          show xm_W _ _ _ 115 _ [.int v13] _
          refine xw_G (pc' := 116) (st' := []) rfl rfl rfl ?_
          refine xw_G (pc' := 34) (st' := []) rfl rfl trivial ?_
          refine xw_M rfl rfl ?_
          exact ih  _ hS hf
    · refine xw_G (pc' := 120) (st' := [.int (1 : Int32)]) rfl rfl trivial ?_
      exact xr_i (inj := xji) rfl rfl rfl rfl hf hQ hS
theorem t_X11_slotsStatement {N : Nat} {ρ : Nat} {δ : Nat} {h : xm_H} {w : Int32 × xm_H}  (hS : xS ρ δ h) (hf : f_X11_slotsStatement N h = some w) : xm_Rn xX 4 155 [.ref 302] h (xji w.1) w.2 ∧ xS ρ δ w.2 := by
  refine xt_mk (φ := fun h => xS ρ δ h) (M := xM_X11_slotsStatement) (ls := [some (.ref 302), none]) rfl (Nat.le_of_ble_eq_true rfl) rfl (fun Q hQ => ?_)
  unfold f_X11_slotsStatement at hf
  refine xw_G (pc' := 1) (st' := [.ref 302]) rfl rfl trivial ?_
  refine xb_e hf (fun v1 h2 e3 hf => ?_)
  refine xw_V (v := some (.int v1)) rfl rfl (xkf (xs_k hS rfl rfl : xm_k h 302 = (11, 0))) (Nat.le_of_ble_eq_true rfl) (Nat.le_of_ble_eq_true rfl) (xm_Rn_le (Nat.le_of_ble_eq_true rfl) (t_X11_advance  hS e3).1) ?_
  have hS := (t_X11_advance  hS e3).2
  show xm_W _ _ _ 4 _ [.int v1] _
  refine xw_G (pc' := 5) (st' := []) rfl rfl rfl ?_
  refine xw_G (pc' := 6) (st' := [.ref 302]) rfl rfl trivial ?_
  refine xw_G (pc' := 7) (st' := [.int (1 : Int32), .ref 302]) rfl rfl trivial ?_
  refine xw_G (pc' := 9) (st' := [.int (100 : Int32), .int (1 : Int32), .ref 302]) rfl rfl trivial ?_
  refine xb_e hf (fun v4 h5 e6 hf => ?_)
  refine xw_V (v := some (.int v4)) rfl rfl (xkf (xs_k hS rfl rfl : xm_k h2 302 = (11, 0))) (Nat.le_of_ble_eq_true rfl) (Nat.le_of_ble_eq_true rfl) (xm_Rn_le (Nat.le_of_ble_eq_true rfl) (t_X11_number  hS e6).1) ?_
  have hS := (t_X11_number  hS e6).2
  show xm_W _ _ _ 12 _ [.int v4] _
  refine xj_if_ne rfl hf (fun hc7 hf => ?_) (fun hc7 hf => ?_)
  · refine xw_G (pc' := 16) (st' := [.int (0 : Int32)]) rfl rfl trivial ?_
    exact xr_i (inj := xji) rfl rfl rfl rfl hf hQ hS
  · refine xw_G (pc' := 18) (st' := [.ref 302]) rfl rfl trivial ?_
    refine xw_gr rfl (xkf (xs_k hS rfl rfl : xm_k h5 302 = (11, 0))) (xs_r hS rfl) ?_
    refine xw_G (pc' := 22) (st' := [.int (3 : Int32), .ref 307]) rfl rfl trivial ?_
    refine xw_G (pc' := 23) (st' := [.ref 302, .int (3 : Int32), .ref 307]) rfl rfl trivial ?_
    refine xw_G (pc' := 26) (st' := [.int (xm_i h5 302 17), .int (3 : Int32), .ref 307]) rfl rfl (xkf (xs_k hS rfl rfl : xm_k h5 302 = (11, 0))) ?_
    refine xa_i rfl (xkf (xs_k hS rfl rfl : xm_k h5 307 = (100, 72))) (xkn (xs_k hS rfl rfl : xm_k h5 307 = (100, 72))) (by decide : xin (3 : Int32) 72) (Nat.le_of_ble_eq_true rfl) hf (fun h8 e9 hf => ?_)
    have hS := xS_si hS e9
    refine xw_G (pc' := 28) (st' := [.ref 302]) rfl rfl trivial ?_
    refine xw_gr rfl (xkf (xs_k hS rfl rfl : xm_k h8 302 = (11, 0))) (xs_r hS rfl) ?_
    refine xw_G (pc' := 32) (st' := [.int (2 : Int32), .ref 307]) rfl rfl trivial ?_
    refine xw_G (pc' := 33) (st' := [.int (1 : Int32), .int (2 : Int32), .ref 307]) rfl rfl trivial ?_
    refine xa_i rfl (xkf (xs_k hS rfl rfl : xm_k h8 307 = (100, 72))) (xkn (xs_k hS rfl rfl : xm_k h8 307 = (100, 72))) (by decide : xin (2 : Int32) 72) (Nat.le_of_ble_eq_true rfl) hf (fun h10 e11 hf => ?_)
    have hS := xS_si hS e11
    refine xw_M rfl rfl ?_
    refine tl_X11_slotsStatement_34  hQ (fun  h12 hS hf => ?_) (fun  h17 hS hf => ?_) _  _ hS hf
    · refine xw_K (pc' := 73) (ls' := [some (.ref 302), none]) (st' := [.ref 302]) rfl rfl trivial ?_
      refine xw_G (pc' := 74) (st' := [.int (3 : Int32), .ref 302]) rfl rfl trivial ?_
      refine xb_e hf (fun v13 h14 e15 hf => ?_)
      refine xw_V (v := some (.int v13)) rfl rfl (xkf (xs_k hS rfl rfl : xm_k h12 302 = (11, 0))) (Nat.le_of_ble_eq_true rfl) (Nat.le_of_ble_eq_true rfl) (xm_Rn_le (Nat.le_of_ble_eq_true rfl) (t_X11_fail  hS e15).1) ?_
      have hS := (t_X11_fail  hS e15).2
      show xm_W _ _ _ 77 _ [.int v13] _
      refine xg_e hf (fun hg16 hf => ?_)
      exact xr_i (inj := xji) rfl rfl (xnar_z hg16).1 rfl hf hQ hS
    · refine xw_K (pc' := 84) (ls' := [some (.ref 302), none]) (st' := [.ref 302]) rfl rfl trivial ?_
      refine xw_G (pc' := 85) (st' := [.int (5 : Int32), .ref 302]) rfl rfl trivial ?_
      refine xb_e hf (fun v18 h19 e20 hf => ?_)
      refine xw_V (v := some (.int v18)) rfl rfl (xkf (xs_k hS rfl rfl : xm_k h17 302 = (11, 0))) (Nat.le_of_ble_eq_true rfl) (Nat.le_of_ble_eq_true rfl) (xm_Rn_le (Nat.le_of_ble_eq_true rfl) (t_X11_fail  hS e20).1) ?_
      have hS := (t_X11_fail  hS e20).2
      show xm_W _ _ _ 88 _ [.int v18] _
      refine xg_e hf (fun hg21 hf => ?_)
      exact xr_i (inj := xji) rfl rfl (xnar_z hg21).1 rfl hf hQ hS
def f_X11_find_3B (N : Nat) (c0 : Nat) (c1 : Int32) (c2 : Int64) (rec : Int32 → xm_H → Option (Int32 × xm_H)) (c4 : Int32) (h : xm_H) : Option (Int32 × xm_H) := (if c4 < c1 then (if (xm_k h c0).1 = 104 then (if xin c4 (xm_k h c0).2 then (if (lg_cmp (xm_l h c0 (Int32.toNatClampNeg c4)) c2) = 0 then (some (c4, h)) else (rec (c4 + (1 : Int32)) h)) else none) else none) else (some ((-1 : Int32), h)))
def f_X11_find_3 (N : Nat) (c0 : Nat) (c1 : Int32) (c2 : Int64) : Nat → Int32 → xm_H → Option (Int32 × xm_H)
  | 0 => fun _ _ => none
  | n + 1 => fun c4 h => f_X11_find_3B N c0 c1 c2 (f_X11_find_3 N c0 c1 c2 n) c4 h
def f_X11_find (N : Nat) (x0 : Nat) (x1 : Int32) (x2 : Int64) (h : xm_H) : Option (Int32 × xm_H) := (f_X11_find_3 N x0 x1 x2 N (0 : Int32) h)
theorem tl_X11_find_3 {ρ : Nat} {δ : Nat} {N : Nat} {c0 : Nat} {c1 : Int32} {c2 : Int64} {Q : xm_O → xm_H → Prop} {w : Int32 × xm_H}  (hQ : xS ρ δ w.2 → Q (xji w.1) w.2)  : ∀ (n : Nat) (c4 : Int32) (h : xm_H), xS ρ δ h → f_X11_find_3 N c0 c1 c2 n c4 h = some w → xm_W (xm_Rn xX 0) xM_X11_find Q 3 [some (.ref c0), some (.int c1), some (.long c2), none, some (.int c4)] [] h := by
  intro n
  induction n with
  | zero =>
    intro c4 h hS hf
    exact (xn_e hf).elim
  | succ n ih =>
    intro c4 h hS hf
    replace hf : f_X11_find_3B N c0 c1 c2 (f_X11_find_3 N c0 c1 c2 n) c4 h = some w := hf
    unfold f_X11_find_3B at hf
    refine xw_K (pc' := 5) (ls' := [some (.ref c0), some (.int c1), some (.long c2), none, some (.int c4)]) (st' := [.int c4]) rfl rfl trivial ?_
    refine xw_G (pc' := 6) (st' := [.int c1, .int c4]) rfl rfl trivial ?_
    refine xj_ic_ge rfl hf (fun hc1 hf => ?_) (fun hc1 hf => ?_)
    · refine xw_G (pc' := 10) (st' := [.ref c0]) rfl rfl trivial ?_
      refine xw_G (pc' := 12) (st' := [.int c4, .ref c0]) rfl rfl trivial ?_
      refine xg_e hf (fun hg2 hf => ?_)
      refine xg_e hf (fun hg3 hf => ?_)
      refine xa_ld (t := 104) (τ := 4) (v := .long (xm_l h c0 (Int32.toNatClampNeg c4))) rfl rfl hg2 rfl hg3 rfl ?_
      refine xw_G (pc' := 14) (st' := [.long c2, .long (xm_l h c0 (Int32.toNatClampNeg c4))]) rfl rfl trivial ?_
      refine xw_G (pc' := 15) (st' := [.int (lg_cmp (xm_l h c0 (Int32.toNatClampNeg c4)) c2)]) rfl rfl trivial ?_
      refine xj_if_ne rfl hf (fun hc4 hf => ?_) (fun hc4 hf => ?_)
      · refine xw_G (pc' := 20) (st' := [.int c4]) rfl rfl trivial ?_
        exact xr_i (inj := xji) rfl rfl rfl rfl hf hQ hS
      · refine xw_G (pc' := 24) (ls' := [some (.ref c0), some (.int c1), some (.long c2), none, some (.int (c4 + (1 : Int32)))]) (st' := []) rfl rfl (Nat.le_of_ble_eq_true rfl) ?_
        refine xw_G (pc' := 3) (st' := []) rfl rfl trivial ?_
        refine xw_M rfl rfl ?_
        exact ih _ _ hS hf
    · refine xw_G (pc' := 28) (st' := [.int (-1 : Int32)]) rfl rfl trivial ?_
      exact xr_i (inj := xji) rfl rfl rfl rfl hf hQ hS
theorem t_X11_find {N : Nat} {ρ : Nat} {δ : Nat} {x0 : Nat} {x1 : Int32} {x2 : Int64} {h : xm_H} {w : Int32 × xm_H}  (hS : xS ρ δ h) (hf : f_X11_find N x0 x1 x2 h = some w) : xm_Rn xX 1 153 [.ref x0, .int x1, .long x2] h (xji w.1) w.2 ∧ xS ρ δ w.2 := by
  refine xt_mk (φ := fun h => xS ρ δ h) (M := xM_X11_find) (ls := [some (.ref x0), some (.int x1), some (.long x2), none, none]) rfl (Nat.le_of_ble_eq_true rfl) rfl (fun Q hQ => ?_)
  unfold f_X11_find at hf
  refine xw_G (pc' := 1) (st' := [.int (0 : Int32)]) rfl rfl trivial ?_
  refine xw_G (pc' := 3) (ls' := [some (.ref x0), some (.int x1), some (.long x2), none, some (.int (0 : Int32))]) (st' := []) rfl rfl (Nat.le_of_ble_eq_true rfl) ?_
  refine xw_M rfl rfl ?_
  refine tl_X11_find_3  hQ  _ _ _ hS hf
def f_X11_newName (N : Nat) (x1 : Nat) (x2 : Int32) (h : xm_H) : Option (Int32 × xm_H) := (if (xm_i h 302 12) = (2 : Int32) then (xb (f_X11_isWord N 75 h) fun v2 h3 => (if v2 = 0 then (xb (f_X11_find N x1 x2 (xm_l h3 302 16) h3) fun v6 h7 => (if v6 = (-1 : Int32) then (if (xm_k h7 x1).1 = 104 then (if xin x2 (xm_k h7 x1).2 then (if 160 ≤ x1 then (xl (xm_sl h7 x1 (Int32.toNatClampNeg x2) (xm_l h7 302 16)) fun h13 => (xb (f_X11_advance N h13) fun v15 h16 => (if v15 = 0 ∨ v15 = 1 then (some (v15, h16)) else none))) else none) else none) else none) else (xb (f_X11_fail (4 : Int32) h7) fun v19 h20 => (if v19 = 0 ∨ v19 = 1 then (some (v19, h20)) else none)))) else (xb (f_X11_fail (2 : Int32) h3) fun v23 h24 => (if v23 = 0 ∨ v23 = 1 then (some (v23, h24)) else none)))) else (xb (f_X11_fail (2 : Int32) h) fun v27 h28 => (if v27 = 0 ∨ v27 = 1 then (some (v27, h28)) else none)))
theorem t_X11_newName {N : Nat} {ρ : Nat} {δ : Nat} {x1 : Nat} {x2 : Int32} {h : xm_H} {w : Int32 × xm_H}  (hS : xS ρ δ h) (hf : f_X11_newName N x1 x2 h = some w) : xm_Rn xX 6 156 [.ref 302, .ref x1, .int x2] h (xji w.1) w.2 ∧ xS ρ δ w.2 := by
  refine xt_mk (φ := fun h => xS ρ δ h) (M := xM_X11_newName) (ls := [some (.ref 302), some (.ref x1), some (.int x2)]) rfl (Nat.le_of_ble_eq_true rfl) rfl (fun Q hQ => ?_)
  unfold f_X11_newName at hf
  refine xw_G (pc' := 1) (st' := [.ref 302]) rfl rfl trivial ?_
  refine xw_G (pc' := 4) (st' := [.int (xm_i h 302 12)]) rfl rfl (xkf (xs_k hS rfl rfl : xm_k h 302 = (11, 0))) ?_
  refine xw_G (pc' := 5) (st' := [.int (2 : Int32), .int (xm_i h 302 12)]) rfl rfl trivial ?_
  refine xj_ic_ne rfl hf (fun hc1 hf => ?_) (fun hc1 hf => ?_)
  · refine xw_G (pc' := 9) (st' := [.ref 302]) rfl rfl trivial ?_
    refine xw_G (pc' := 11) (st' := [.ref 75, .ref 302]) rfl rfl trivial ?_
    refine xb_e hf (fun v2 h3 e4 hf => ?_)
    refine xw_V (v := some (.int v2)) rfl rfl (xkf (xs_k hS rfl rfl : xm_k h 302 = (11, 0))) (Nat.le_of_ble_eq_true rfl) (Nat.le_of_ble_eq_true rfl) (xm_Rn_le (Nat.le_of_ble_eq_true rfl) (t_X11_isWord  hS e4).1) ?_
    have hS := (t_X11_isWord  hS e4).2
    show xm_W _ _ _ 14 _ [.int v2] _
    refine xj_if_eq rfl hf (fun hc5 hf => ?_) (fun hc5 hf => ?_)
    · refine xw_G (pc' := 24) (st' := [.ref x1]) rfl rfl trivial ?_
      refine xw_G (pc' := 25) (st' := [.int x2, .ref x1]) rfl rfl trivial ?_
      refine xw_G (pc' := 26) (st' := [.ref 302, .int x2, .ref x1]) rfl rfl trivial ?_
      refine xw_G (pc' := 29) (st' := [.long (xm_l h3 302 16), .int x2, .ref x1]) rfl rfl (xkf (xs_k hS rfl rfl : xm_k h3 302 = (11, 0))) ?_
      refine xb_e hf (fun v6 h7 e8 hf => ?_)
      refine xw_S (v := some (.int v6)) rfl (Nat.le_of_ble_eq_true rfl) (Nat.le_of_ble_eq_true rfl) (xm_Rn_le (Nat.le_of_ble_eq_true rfl) (t_X11_find  hS e8).1) ?_
      have hS := (t_X11_find  hS e8).2
      show xm_W _ _ _ 32 _ [.int v6] _
      refine xw_G (pc' := 33) (st' := [.int (-1 : Int32), .int v6]) rfl rfl trivial ?_
      refine xj_ic_eq rfl hf (fun hc9 hf => ?_) (fun hc9 hf => ?_)
      · refine xw_G (pc' := 43) (st' := [.ref x1]) rfl rfl trivial ?_
        refine xw_G (pc' := 44) (st' := [.int x2, .ref x1]) rfl rfl trivial ?_
        refine xw_G (pc' := 45) (st' := [.ref 302, .int x2, .ref x1]) rfl rfl trivial ?_
        refine xw_G (pc' := 48) (st' := [.long (xm_l h7 302 16), .int x2, .ref x1]) rfl rfl (xkf (xs_k hS rfl rfl : xm_k h7 302 = (11, 0))) ?_
        refine xg_e hf (fun hg10 hf => ?_)
        refine xg_e hf (fun hg11 hf => ?_)
        refine xg_e hf (fun hg12 hf => ?_)
        refine xa_l rfl hg10 rfl hg11 hg12 hf (fun h13 e14 hf => ?_)
        have hS := xS_sl hS e14
        refine xw_G (pc' := 50) (st' := [.ref 302]) rfl rfl trivial ?_
        refine xb_e hf (fun v15 h16 e17 hf => ?_)
        refine xw_V (v := some (.int v15)) rfl rfl (xkf (xs_k hS rfl rfl : xm_k h13 302 = (11, 0))) (Nat.le_of_ble_eq_true rfl) (Nat.le_of_ble_eq_true rfl) (xm_Rn_le (Nat.le_of_ble_eq_true rfl) (t_X11_advance  hS e17).1) ?_
        have hS := (t_X11_advance  hS e17).2
        show xm_W _ _ _ 53 _ [.int v15] _
        refine xg_e hf (fun hg18 hf => ?_)
        exact xr_i (inj := xji) rfl rfl (xnar_z hg18).1 rfl hf hQ hS
      · refine xw_G (pc' := 37) (st' := [.ref 302]) rfl rfl trivial ?_
        refine xw_G (pc' := 38) (st' := [.int (4 : Int32), .ref 302]) rfl rfl trivial ?_
        refine xb_e hf (fun v19 h20 e21 hf => ?_)
        refine xw_V (v := some (.int v19)) rfl rfl (xkf (xs_k hS rfl rfl : xm_k h7 302 = (11, 0))) (Nat.le_of_ble_eq_true rfl) (Nat.le_of_ble_eq_true rfl) (xm_Rn_le (Nat.le_of_ble_eq_true rfl) (t_X11_fail  hS e21).1) ?_
        have hS := (t_X11_fail  hS e21).2
        show xm_W _ _ _ 41 _ [.int v19] _
        refine xg_e hf (fun hg22 hf => ?_)
        exact xr_i (inj := xji) rfl rfl (xnar_z hg22).1 rfl hf hQ hS
    · refine xw_G (pc' := 18) (st' := [.ref 302]) rfl rfl trivial ?_
      refine xw_G (pc' := 19) (st' := [.int (2 : Int32), .ref 302]) rfl rfl trivial ?_
      refine xb_e hf (fun v23 h24 e25 hf => ?_)
      refine xw_V (v := some (.int v23)) rfl rfl (xkf (xs_k hS rfl rfl : xm_k h3 302 = (11, 0))) (Nat.le_of_ble_eq_true rfl) (Nat.le_of_ble_eq_true rfl) (xm_Rn_le (Nat.le_of_ble_eq_true rfl) (t_X11_fail  hS e25).1) ?_
      have hS := (t_X11_fail  hS e25).2
      show xm_W _ _ _ 22 _ [.int v23] _
      refine xg_e hf (fun hg26 hf => ?_)
      exact xr_i (inj := xji) rfl rfl (xnar_z hg26).1 rfl hf hQ hS
  · refine xw_G (pc' := 18) (st' := [.ref 302]) rfl rfl trivial ?_
    refine xw_G (pc' := 19) (st' := [.int (2 : Int32), .ref 302]) rfl rfl trivial ?_
    refine xb_e hf (fun v27 h28 e29 hf => ?_)
    refine xw_V (v := some (.int v27)) rfl rfl (xkf (xs_k hS rfl rfl : xm_k h 302 = (11, 0))) (Nat.le_of_ble_eq_true rfl) (Nat.le_of_ble_eq_true rfl) (xm_Rn_le (Nat.le_of_ble_eq_true rfl) (t_X11_fail  hS e29).1) ?_
    have hS := (t_X11_fail  hS e29).2
    show xm_W _ _ _ 22 _ [.int v27] _
    refine xg_e hf (fun hg30 hf => ?_)
    exact xr_i (inj := xji) rfl rfl (xnar_z hg30).1 rfl hf hQ hS
def f_X11_tagStatement (N : Nat) (h : xm_H) : Option (Int32 × xm_H) := (if (xm_i h 307 7) = (6 : Int32) then (xb (f_X11_fail (5 : Int32) h) fun v2 h3 => (if v2 = 0 ∨ v2 = 1 then (some (v2, h3)) else none)) else (xb (f_X11_advance N h) fun v6 h7 => (xb (f_X11_newName N 309 (xm_i h7 307 7) h7) fun v9 h10 => (if v9 = 0 then (some ((0 : Int32), h10)) else (xb (f_X11_numberTo N ((8 : Int32) + (xm_i h10 307 7)) (0 : Int32) (999 : Int32) h10) fun v13 h14 => (if v13 = 0 then (some ((0 : Int32), h14)) else (xl (xm_si h14 307 7 ((xm_i h14 307 7) + (1 : Int32))) fun h17 => (some ((1 : Int32), h17)))))))))
theorem t_X11_tagStatement {N : Nat} {ρ : Nat} {δ : Nat} {h : xm_H} {w : Int32 × xm_H}  (hS : xS ρ δ h) (hf : f_X11_tagStatement N h = some w) : xm_Rn xX 7 157 [.ref 302] h (xji w.1) w.2 ∧ xS ρ δ w.2 := by
  refine xt_mk (φ := fun h => xS ρ δ h) (M := xM_X11_tagStatement) (ls := [some (.ref 302)]) rfl (Nat.le_of_ble_eq_true rfl) rfl (fun Q hQ => ?_)
  unfold f_X11_tagStatement at hf
  refine xw_G (pc' := 1) (st' := [.ref 302]) rfl rfl trivial ?_
  refine xw_gr rfl (xkf (xs_k hS rfl rfl : xm_k h 302 = (11, 0))) (xs_r hS rfl) ?_
  refine xw_G (pc' := 6) (st' := [.int (7 : Int32), .ref 307]) rfl rfl trivial ?_
  refine xa_ld (t := 100) (τ := 0) (v := .int (xm_i h 307 7)) rfl rfl (xkf (xs_k hS rfl rfl : xm_k h 307 = (100, 72))) (xkn (xs_k hS rfl rfl : xm_k h 307 = (100, 72))) (by decide : xin (7 : Int32) 72) rfl ?_
  refine xw_G (pc' := 9) (st' := [.int (6 : Int32), .int (xm_i h 307 7)]) rfl rfl trivial ?_
  refine xj_ic_ne rfl hf (fun hc1 hf => ?_) (fun hc1 hf => ?_)
  · refine xw_G (pc' := 13) (st' := [.ref 302]) rfl rfl trivial ?_
    refine xw_G (pc' := 14) (st' := [.int (5 : Int32), .ref 302]) rfl rfl trivial ?_
    refine xb_e hf (fun v2 h3 e4 hf => ?_)
    refine xw_V (v := some (.int v2)) rfl rfl (xkf (xs_k hS rfl rfl : xm_k h 302 = (11, 0))) (Nat.le_of_ble_eq_true rfl) (Nat.le_of_ble_eq_true rfl) (xm_Rn_le (Nat.le_of_ble_eq_true rfl) (t_X11_fail  hS e4).1) ?_
    have hS := (t_X11_fail  hS e4).2
    show xm_W _ _ _ 17 _ [.int v2] _
    refine xg_e hf (fun hg5 hf => ?_)
    exact xr_i (inj := xji) rfl rfl (xnar_z hg5).1 rfl hf hQ hS
  · refine xw_G (pc' := 19) (st' := [.ref 302]) rfl rfl trivial ?_
    refine xb_e hf (fun v6 h7 e8 hf => ?_)
    refine xw_V (v := some (.int v6)) rfl rfl (xkf (xs_k hS rfl rfl : xm_k h 302 = (11, 0))) (Nat.le_of_ble_eq_true rfl) (Nat.le_of_ble_eq_true rfl) (xm_Rn_le (Nat.le_of_ble_eq_true rfl) (t_X11_advance  hS e8).1) ?_
    have hS := (t_X11_advance  hS e8).2
    show xm_W _ _ _ 22 _ [.int v6] _
    refine xw_G (pc' := 23) (st' := []) rfl rfl rfl ?_
    refine xw_G (pc' := 24) (st' := [.ref 302]) rfl rfl trivial ?_
    refine xw_G (pc' := 25) (st' := [.ref 302, .ref 302]) rfl rfl trivial ?_
    refine xw_gr rfl (xkf (xs_k hS rfl rfl : xm_k h7 302 = (11, 0))) (xs_r hS rfl) ?_
    refine xw_G (pc' := 29) (st' := [.ref 302, .ref 309, .ref 302]) rfl rfl trivial ?_
    refine xw_gr rfl (xkf (xs_k hS rfl rfl : xm_k h7 302 = (11, 0))) (xs_r hS rfl) ?_
    refine xw_G (pc' := 34) (st' := [.int (7 : Int32), .ref 307, .ref 309, .ref 302]) rfl rfl trivial ?_
    refine xa_ld (t := 100) (τ := 0) (v := .int (xm_i h7 307 7)) rfl rfl (xkf (xs_k hS rfl rfl : xm_k h7 307 = (100, 72))) (xkn (xs_k hS rfl rfl : xm_k h7 307 = (100, 72))) (by decide : xin (7 : Int32) 72) rfl ?_
    refine xb_e hf (fun v9 h10 e11 hf => ?_)
    refine xw_V (v := some (.int v9)) rfl rfl (xkf (xs_k hS rfl rfl : xm_k h7 302 = (11, 0))) (Nat.le_of_ble_eq_true rfl) (Nat.le_of_ble_eq_true rfl) (xm_Rn_le (Nat.le_of_ble_eq_true rfl) (t_X11_newName  hS e11).1) ?_
    have hS := (t_X11_newName  hS e11).2
    show xm_W _ _ _ 38 _ [.int v9] _
    refine xj_if_eq rfl hf (fun hc12 hf => ?_) (fun hc12 hf => ?_)
    · refine xw_G (pc' := 63) (st' := [.int (0 : Int32)]) rfl rfl trivial ?_
      exact xr_i (inj := xji) rfl rfl rfl rfl hf hQ hS
    · refine xw_G (pc' := 42) (st' := [.ref 302]) rfl rfl trivial ?_
      refine xw_G (pc' := 44) (st' := [.int (8 : Int32), .ref 302]) rfl rfl trivial ?_
      refine xw_G (pc' := 45) (st' := [.ref 302, .int (8 : Int32), .ref 302]) rfl rfl trivial ?_
      refine xw_gr rfl (xkf (xs_k hS rfl rfl : xm_k h10 302 = (11, 0))) (xs_r hS rfl) ?_
      refine xw_G (pc' := 50) (st' := [.int (7 : Int32), .ref 307, .int (8 : Int32), .ref 302]) rfl rfl trivial ?_
      refine xa_ld (t := 100) (τ := 0) (v := .int (xm_i h10 307 7)) rfl rfl (xkf (xs_k hS rfl rfl : xm_k h10 307 = (100, 72))) (xkn (xs_k hS rfl rfl : xm_k h10 307 = (100, 72))) (by decide : xin (7 : Int32) 72) rfl ?_
      refine xw_G (pc' := 52) (st' := [.int ((8 : Int32) + (xm_i h10 307 7)), .ref 302]) rfl rfl trivial ?_
      refine xw_G (pc' := 53) (st' := [.int (0 : Int32), .int ((8 : Int32) + (xm_i h10 307 7)), .ref 302]) rfl rfl trivial ?_
      refine xw_G (pc' := 56) (st' := [.int (999 : Int32), .int (0 : Int32), .int ((8 : Int32) + (xm_i h10 307 7)), .ref 302]) rfl rfl trivial ?_
      refine xb_e hf (fun v13 h14 e15 hf => ?_)
      refine xw_V (v := some (.int v13)) rfl rfl (xkf (xs_k hS rfl rfl : xm_k h10 302 = (11, 0))) (Nat.le_of_ble_eq_true rfl) (Nat.le_of_ble_eq_true rfl) (xm_Rn_le (Nat.le_of_ble_eq_true rfl) (t_X11_numberTo  hS e15).1) ?_
      have hS := (t_X11_numberTo  hS e15).2
      show xm_W _ _ _ 59 _ [.int v13] _
      refine xj_if_ne rfl hf (fun hc16 hf => ?_) (fun hc16 hf => ?_)
      · refine xw_G (pc' := 63) (st' := [.int (0 : Int32)]) rfl rfl trivial ?_
        exact xr_i (inj := xji) rfl rfl rfl rfl hf hQ hS
      · refine xw_G (pc' := 65) (st' := [.ref 302]) rfl rfl trivial ?_
        refine xw_gr rfl (xkf (xs_k hS rfl rfl : xm_k h14 302 = (11, 0))) (xs_r hS rfl) ?_
        refine xw_G (pc' := 70) (st' := [.int (7 : Int32), .ref 307]) rfl rfl trivial ?_
        refine xw_G (pc' := 71) (st' := [.int (7 : Int32), .ref 307, .int (7 : Int32), .ref 307]) rfl rfl ⟨rfl, rfl⟩ ?_
        refine xa_ld (t := 100) (τ := 0) (v := .int (xm_i h14 307 7)) rfl rfl (xkf (xs_k hS rfl rfl : xm_k h14 307 = (100, 72))) (xkn (xs_k hS rfl rfl : xm_k h14 307 = (100, 72))) (by decide : xin (7 : Int32) 72) rfl ?_
        refine xw_G (pc' := 73) (st' := [.int (1 : Int32), .int (xm_i h14 307 7), .int (7 : Int32), .ref 307]) rfl rfl trivial ?_
        refine xw_G (pc' := 74) (st' := [.int ((xm_i h14 307 7) + (1 : Int32)), .int (7 : Int32), .ref 307]) rfl rfl trivial ?_
        refine xa_i rfl (xkf (xs_k hS rfl rfl : xm_k h14 307 = (100, 72))) (xkn (xs_k hS rfl rfl : xm_k h14 307 = (100, 72))) (by decide : xin (7 : Int32) 72) (Nat.le_of_ble_eq_true rfl) hf (fun h17 e18 hf => ?_)
        have hS := xS_si hS e18
        refine xw_G (pc' := 76) (st' := [.int (1 : Int32)]) rfl rfl trivial ?_
        exact xr_i (inj := xji) rfl rfl rfl rfl hf hQ hS
def f_X11_target (N : Nat) (x1 : Int32) (h : xm_H) : Option (Int32 × xm_H) := (if (xm_i h 302 12) = (2 : Int32) then (xb (f_X11_find N 309 (xm_i h 307 7) (xm_l h 302 16) h) fun v2 h3 => (if v2 = (-1 : Int32) then (xb (f_X11_isWord N 75 h3) fun v6 h7 => (if v6 = 0 then (xb (f_X11_fail (4 : Int32) h7) fun v10 h11 => (if v10 = 0 ∨ v10 = 1 then (some (v10, h11)) else none)) else (if xin ((47 : Int32) + x1) 72 then (xl (xm_si h7 307 (Int32.toNatClampNeg ((47 : Int32) + x1)) v2) fun h15 => (xb (f_X11_advance N h15) fun v17 h18 => (if v17 = 0 ∨ v17 = 1 then (some (v17, h18)) else none))) else none))) else (if xin ((47 : Int32) + x1) 72 then (xl (xm_si h3 307 (Int32.toNatClampNeg ((47 : Int32) + x1)) v2) fun h22 => (xb (f_X11_advance N h22) fun v24 h25 => (if v24 = 0 ∨ v24 = 1 then (some (v24, h25)) else none))) else none))) else (xb (f_X11_fail (2 : Int32) h) fun v28 h29 => (if v28 = 0 ∨ v28 = 1 then (some (v28, h29)) else none)))
theorem t_X11_target {N : Nat} {ρ : Nat} {δ : Nat} {x1 : Int32} {h : xm_H} {w : Int32 × xm_H}  (hS : xS ρ δ h) (hf : f_X11_target N x1 h = some w) : xm_Rn xX 6 158 [.ref 302, .int x1] h (xji w.1) w.2 ∧ xS ρ δ w.2 := by
  refine xt_mk (φ := fun h => xS ρ δ h) (M := xM_X11_target) (ls := [some (.ref 302), some (.int x1), none]) rfl (Nat.le_of_ble_eq_true rfl) rfl (fun Q hQ => ?_)
  unfold f_X11_target at hf
  refine xw_G (pc' := 1) (st' := [.ref 302]) rfl rfl trivial ?_
  refine xw_G (pc' := 4) (st' := [.int (xm_i h 302 12)]) rfl rfl (xkf (xs_k hS rfl rfl : xm_k h 302 = (11, 0))) ?_
  refine xw_G (pc' := 5) (st' := [.int (2 : Int32), .int (xm_i h 302 12)]) rfl rfl trivial ?_
  refine xj_ic_eq rfl hf (fun hc1 hf => ?_) (fun hc1 hf => ?_)
  · refine xw_G (pc' := 15) (st' := [.ref 302]) rfl rfl trivial ?_
    refine xw_gr rfl (xkf (xs_k hS rfl rfl : xm_k h 302 = (11, 0))) (xs_r hS rfl) ?_
    refine xw_G (pc' := 19) (st' := [.ref 302, .ref 309]) rfl rfl trivial ?_
    refine xw_gr rfl (xkf (xs_k hS rfl rfl : xm_k h 302 = (11, 0))) (xs_r hS rfl) ?_
    refine xw_G (pc' := 24) (st' := [.int (7 : Int32), .ref 307, .ref 309]) rfl rfl trivial ?_
    refine xa_ld (t := 100) (τ := 0) (v := .int (xm_i h 307 7)) rfl rfl (xkf (xs_k hS rfl rfl : xm_k h 307 = (100, 72))) (xkn (xs_k hS rfl rfl : xm_k h 307 = (100, 72))) (by decide : xin (7 : Int32) 72) rfl ?_
    refine xw_G (pc' := 26) (st' := [.ref 302, .int (xm_i h 307 7), .ref 309]) rfl rfl trivial ?_
    refine xw_G (pc' := 29) (st' := [.long (xm_l h 302 16), .int (xm_i h 307 7), .ref 309]) rfl rfl (xkf (xs_k hS rfl rfl : xm_k h 302 = (11, 0))) ?_
    refine xb_e hf (fun v2 h3 e4 hf => ?_)
    refine xw_S (v := some (.int v2)) rfl (Nat.le_of_ble_eq_true rfl) (Nat.le_of_ble_eq_true rfl) (xm_Rn_le (Nat.le_of_ble_eq_true rfl) (t_X11_find  hS e4).1) ?_
    have hS := (t_X11_find  hS e4).2
    show xm_W _ _ _ 32 _ [.int v2] _
    refine xw_G (pc' := 33) (ls' := [some (.ref 302), some (.int x1), some (.int v2)]) (st' := []) rfl rfl (Nat.le_of_ble_eq_true rfl) ?_
    refine xw_G (pc' := 34) (st' := [.int v2]) rfl rfl trivial ?_
    refine xw_G (pc' := 35) (st' := [.int (-1 : Int32), .int v2]) rfl rfl trivial ?_
    refine xj_ic_ne rfl hf (fun hc5 hf => ?_) (fun hc5 hf => ?_)
    · refine xw_G (pc' := 39) (st' := [.ref 302]) rfl rfl trivial ?_
      refine xw_G (pc' := 41) (st' := [.ref 75, .ref 302]) rfl rfl trivial ?_
      refine xb_e hf (fun v6 h7 e8 hf => ?_)
      refine xw_V (v := some (.int v6)) rfl rfl (xkf (xs_k hS rfl rfl : xm_k h3 302 = (11, 0))) (Nat.le_of_ble_eq_true rfl) (Nat.le_of_ble_eq_true rfl) (xm_Rn_le (Nat.le_of_ble_eq_true rfl) (t_X11_isWord  hS e8).1) ?_
      have hS := (t_X11_isWord  hS e8).2
      show xm_W _ _ _ 44 _ [.int v6] _
      refine xj_if_ne rfl hf (fun hc9 hf => ?_) (fun hc9 hf => ?_)
      · refine xw_G (pc' := 48) (st' := [.ref 302]) rfl rfl trivial ?_
        refine xw_G (pc' := 49) (st' := [.int (4 : Int32), .ref 302]) rfl rfl trivial ?_
        refine xb_e hf (fun v10 h11 e12 hf => ?_)
        refine xw_V (v := some (.int v10)) rfl rfl (xkf (xs_k hS rfl rfl : xm_k h7 302 = (11, 0))) (Nat.le_of_ble_eq_true rfl) (Nat.le_of_ble_eq_true rfl) (xm_Rn_le (Nat.le_of_ble_eq_true rfl) (t_X11_fail  hS e12).1) ?_
        have hS := (t_X11_fail  hS e12).2
        show xm_W _ _ _ 52 _ [.int v10] _
        refine xg_e hf (fun hg13 hf => ?_)
        exact xr_i (inj := xji) rfl rfl (xnar_z hg13).1 rfl hf hQ hS
      · refine xw_G (pc' := 54) (st' := [.ref 302]) rfl rfl trivial ?_
        refine xw_gr rfl (xkf (xs_k hS rfl rfl : xm_k h7 302 = (11, 0))) (xs_r hS rfl) ?_
        refine xw_G (pc' := 59) (st' := [.int (47 : Int32), .ref 307]) rfl rfl trivial ?_
        refine xw_G (pc' := 60) (st' := [.int x1, .int (47 : Int32), .ref 307]) rfl rfl trivial ?_
        refine xw_G (pc' := 61) (st' := [.int ((47 : Int32) + x1), .ref 307]) rfl rfl trivial ?_
        refine xw_G (pc' := 62) (st' := [.int v2, .int ((47 : Int32) + x1), .ref 307]) rfl rfl trivial ?_
        refine xg_e hf (fun hg14 hf => ?_)
        refine xa_i rfl (xkf (xs_k hS rfl rfl : xm_k h7 307 = (100, 72))) (xkn (xs_k hS rfl rfl : xm_k h7 307 = (100, 72))) hg14 (Nat.le_of_ble_eq_true rfl) hf (fun h15 e16 hf => ?_)
        have hS := xS_si hS e16
        refine xw_G (pc' := 64) (st' := [.ref 302]) rfl rfl trivial ?_
        refine xb_e hf (fun v17 h18 e19 hf => ?_)
        refine xw_V (v := some (.int v17)) rfl rfl (xkf (xs_k hS rfl rfl : xm_k h15 302 = (11, 0))) (Nat.le_of_ble_eq_true rfl) (Nat.le_of_ble_eq_true rfl) (xm_Rn_le (Nat.le_of_ble_eq_true rfl) (t_X11_advance  hS e19).1) ?_
        have hS := (t_X11_advance  hS e19).2
        show xm_W _ _ _ 67 _ [.int v17] _
        refine xg_e hf (fun hg20 hf => ?_)
        exact xr_i (inj := xji) rfl rfl (xnar_z hg20).1 rfl hf hQ hS
    · refine xw_G (pc' := 54) (st' := [.ref 302]) rfl rfl trivial ?_
      refine xw_gr rfl (xkf (xs_k hS rfl rfl : xm_k h3 302 = (11, 0))) (xs_r hS rfl) ?_
      refine xw_G (pc' := 59) (st' := [.int (47 : Int32), .ref 307]) rfl rfl trivial ?_
      refine xw_G (pc' := 60) (st' := [.int x1, .int (47 : Int32), .ref 307]) rfl rfl trivial ?_
      refine xw_G (pc' := 61) (st' := [.int ((47 : Int32) + x1), .ref 307]) rfl rfl trivial ?_
      refine xw_G (pc' := 62) (st' := [.int v2, .int ((47 : Int32) + x1), .ref 307]) rfl rfl trivial ?_
      refine xg_e hf (fun hg21 hf => ?_)
      refine xa_i rfl (xkf (xs_k hS rfl rfl : xm_k h3 307 = (100, 72))) (xkn (xs_k hS rfl rfl : xm_k h3 307 = (100, 72))) hg21 (Nat.le_of_ble_eq_true rfl) hf (fun h22 e23 hf => ?_)
      have hS := xS_si hS e23
      refine xw_G (pc' := 64) (st' := [.ref 302]) rfl rfl trivial ?_
      refine xb_e hf (fun v24 h25 e26 hf => ?_)
      refine xw_V (v := some (.int v24)) rfl rfl (xkf (xs_k hS rfl rfl : xm_k h22 302 = (11, 0))) (Nat.le_of_ble_eq_true rfl) (Nat.le_of_ble_eq_true rfl) (xm_Rn_le (Nat.le_of_ble_eq_true rfl) (t_X11_advance  hS e26).1) ?_
      have hS := (t_X11_advance  hS e26).2
      show xm_W _ _ _ 67 _ [.int v24] _
      refine xg_e hf (fun hg27 hf => ?_)
      exact xr_i (inj := xji) rfl rfl (xnar_z hg27).1 rfl hf hQ hS
  · refine xw_G (pc' := 9) (st' := [.ref 302]) rfl rfl trivial ?_
    refine xw_G (pc' := 10) (st' := [.int (2 : Int32), .ref 302]) rfl rfl trivial ?_
    refine xb_e hf (fun v28 h29 e30 hf => ?_)
    refine xw_V (v := some (.int v28)) rfl rfl (xkf (xs_k hS rfl rfl : xm_k h 302 = (11, 0))) (Nat.le_of_ble_eq_true rfl) (Nat.le_of_ble_eq_true rfl) (xm_Rn_le (Nat.le_of_ble_eq_true rfl) (t_X11_fail  hS e30).1) ?_
    have hS := (t_X11_fail  hS e30).2
    show xm_W _ _ _ 13 _ [.int v28] _
    refine xg_e hf (fun hg31 hf => ?_)
    exact xr_i (inj := xji) rfl rfl (xnar_z hg31).1 rfl hf hQ hS
