/-! printed by wip/gen/gen23.py: methods as functions of their arguments and the heap -/
def f_J5_setLength_d00df (N : Nat) (x1 : Int32) (h : xm_H) : Option (Unit × xm_H) := (if x1 < 0 then none else (xb (f_J5_ensureCapacityInternal_d00df x1 h) fun v2 h3 => (if (xm_i h3 300 3) < x1 then (xb (f_J5_isLatin1_aae02 h3) fun v6 h7 => (if v6 = 0 then (xbr (xm_r h7 300 0) fun b10 => none) else (xbr (xm_r h7 300 0) fun b12 => (xb (f_J1_fillNull_b72d1 N b12 (xm_i h7 300 3) x1 h7) fun v14 h15 => (xl (xm_si h15 300 3 x1) fun h17 => (some ((), h17))))))) else (if x1 < (xm_i h3 300 3) then (xl (xm_si h3 300 2 (1 : Int32)) fun h20 => (xl (xm_si h20 300 3 x1) fun h22 => (some ((), h22)))) else (xl (xm_si h3 300 3 x1) fun h24 => (some ((), h24)))))))
theorem t_J5_setLength_d00df {N : Nat} {ρ : Nat} {δ : Nat} {x1 : Int32} {h : xm_H} {w : Unit × xm_H}  (hS : xS ρ δ h) (hf : f_J5_setLength_d00df N x1 h = some w) : xm_Rn xX 4 256 [.ref 300, .int x1] h (xjv w.1) w.2 ∧ xS ρ δ w.2 := by
  refine xt_mk (φ := fun h => xS ρ δ h) (M := xM_J5_setLength_d00df) (ls := [some (.ref 300), some (.int x1)]) rfl (Nat.le_of_ble_eq_true rfl) rfl (fun Q hQ => ?_)
  unfold f_J5_setLength_d00df at hf
  refine xw_G (pc' := 1) (st' := [.int x1]) rfl rfl trivial ?_
  refine xj_if_ge rfl hf (fun hc1 hf => ?_) (fun hc1 hf => ?_)
  · exact (xn_e hf).elim
  · refine xw_G (pc' := 14) (st' := [.ref 300]) rfl rfl trivial ?_
    refine xw_G (pc' := 15) (st' := [.int x1, .ref 300]) rfl rfl trivial ?_
    refine xb_e hf (fun v2 h3 e4 hf => ?_)
    refine xw_V6 (v := none) rfl rfl (xkf (xs_k hS rfl rfl : xm_k h 300 = (13, 0))) (Nat.le_of_ble_eq_true rfl) (Nat.le_of_ble_eq_true rfl) (xm_Rn_le (Nat.le_of_ble_eq_true rfl) (t_J5_ensureCapacityInternal_d00df  hS e4).1) ?_
    have hS := (t_J5_ensureCapacityInternal_d00df  hS e4).2
    show xm_W _ _ _ 18 _ [] _
    refine xw_G (pc' := 19) (st' := [.ref 300]) rfl rfl trivial ?_
    refine xw_G (pc' := 22) (st' := [.int (xm_i h3 300 3)]) rfl rfl (xkf (xs_k hS rfl rfl : xm_k h3 300 = (13, 0))) ?_
    refine xw_G (pc' := 23) (st' := [.int x1, .int (xm_i h3 300 3)]) rfl rfl trivial ?_
    refine xj_ic_ge rfl hf (fun hc5 hf => ?_) (fun hc5 hf => ?_)
    · refine xw_G (pc' := 27) (st' := [.ref 300]) rfl rfl trivial ?_
      refine xb_e hf (fun v6 h7 e8 hf => ?_)
      refine xw_V6 (v := some (.int v6)) rfl rfl (xkf (xs_k hS rfl rfl : xm_k h3 300 = (13, 0))) (Nat.le_of_ble_eq_true rfl) (Nat.le_of_ble_eq_true rfl) (xm_Rn_le (Nat.le_of_ble_eq_true rfl) (t_J5_isLatin1_aae02  hS e8).1) ?_
      have hS := (t_J5_isLatin1_aae02  hS e8).2
      show xm_W _ _ _ 30 _ [.int v6] _
      refine xj_if_eq rfl hf (fun hc9 hf => ?_) (fun hc9 hf => ?_)
      · refine xw_G (pc' := 49) (st' := [.ref 300]) rfl rfl trivial ?_
        refine xbr_e hf (fun b10 hr11 hf => ?_)
        refine xw_gr rfl (xkf (xs_k hS rfl rfl : xm_k h7 300 = (13, 0))) hr11 ?_
        refine xw_G (pc' := 53) (st' := [.ref 300, .ref b10]) rfl rfl trivial ?_
        refine xw_G (pc' := 56) (st' := [.int (xm_i h7 300 3), .ref b10]) rfl rfl (xkf (xs_k hS rfl rfl : xm_k h7 300 = (13, 0))) ?_
        refine xw_G (pc' := 57) (st' := [.int x1, .int (xm_i h7 300 3), .ref b10]) rfl rfl trivial ?_
        exact (xn_e hf).elim
      · refine xw_G (pc' := 34) (st' := [.ref 300]) rfl rfl trivial ?_
        refine xbr_e hf (fun b12 hr13 hf => ?_)
        refine xw_gr rfl (xkf (xs_k hS rfl rfl : xm_k h7 300 = (13, 0))) hr13 ?_
        refine xw_G (pc' := 38) (st' := [.ref 300, .ref b12]) rfl rfl trivial ?_
        refine xw_G (pc' := 41) (st' := [.int (xm_i h7 300 3), .ref b12]) rfl rfl (xkf (xs_k hS rfl rfl : xm_k h7 300 = (13, 0))) ?_
        refine xw_G (pc' := 42) (st' := [.int x1, .int (xm_i h7 300 3), .ref b12]) rfl rfl trivial ?_
        refine xb_e hf (fun v14 h15 e16 hf => ?_)
        refine xw_S (v := none) rfl (Nat.le_of_ble_eq_true rfl) (Nat.le_of_ble_eq_true rfl) (xm_Rn_le (Nat.le_of_ble_eq_true rfl) (t_J1_fillNull_b72d1  hS e16).1) ?_
        have hS := (t_J1_fillNull_b72d1  hS e16).2
        show xm_W _ _ _ 45 _ [] _
        refine xw_G (pc' := 76) (st' := []) rfl rfl trivial ?_
        refine xw_G (pc' := 77) (st' := [.ref 300]) rfl rfl trivial ?_
        refine xw_G (pc' := 78) (st' := [.int x1, .ref 300]) rfl rfl trivial ?_
        refine xp_i rfl (xkf (xs_k hS rfl rfl : xm_k h15 300 = (13, 0))) (Nat.le_of_ble_eq_true rfl) hf (fun h17 e18 hf => ?_)
        have hS := xS_si hS e18
        exact xr_v (inj := xjv) rfl rfl hf hQ hS
    · refine xw_G (pc' := 64) (st' := [.ref 300]) rfl rfl trivial ?_
      refine xw_G (pc' := 67) (st' := [.int (xm_i h3 300 3)]) rfl rfl (xkf (xs_k hS rfl rfl : xm_k h3 300 = (13, 0))) ?_
      refine xw_G (pc' := 68) (st' := [.int x1, .int (xm_i h3 300 3)]) rfl rfl trivial ?_
      refine xj_ic_le rfl hf (fun hc19 hf => ?_) (fun hc19 hf => ?_)
      · refine xw_G (pc' := 72) (st' := [.ref 300]) rfl rfl trivial ?_
        refine xw_G (pc' := 73) (st' := [.int (1 : Int32), .ref 300]) rfl rfl trivial ?_
        refine xp_z rfl (xkf (xs_k hS rfl rfl : xm_k h3 300 = (13, 0))) (Nat.le_of_ble_eq_true rfl) ⟨rfl, rfl⟩ hf (fun h20 e21 hf => ?_)
        have hS := xS_si hS e21
        refine xw_G (pc' := 77) (st' := [.ref 300]) rfl rfl trivial ?_
        refine xw_G (pc' := 78) (st' := [.int x1, .ref 300]) rfl rfl trivial ?_
        refine xp_i rfl (xkf (xs_k hS rfl rfl : xm_k h20 300 = (13, 0))) (Nat.le_of_ble_eq_true rfl) hf (fun h22 e23 hf => ?_)
        have hS := xS_si hS e23
        exact xr_v (inj := xjv) rfl rfl hf hQ hS
      · refine xw_G (pc' := 77) (st' := [.ref 300]) rfl rfl trivial ?_
        refine xw_G (pc' := 78) (st' := [.int x1, .ref 300]) rfl rfl trivial ?_
        refine xp_i rfl (xkf (xs_k hS rfl rfl : xm_k h3 300 = (13, 0))) (Nat.le_of_ble_eq_true rfl) hf (fun h24 e25 hf => ?_)
        have hS := xS_si hS e25
        exact xr_v (inj := xjv) rfl rfl hf hQ hS
def f_J4_setLength_d00df (N : Nat) (x1 : Int32) (h : xm_H) : Option (Unit × xm_H) := (xb (f_J5_setLength_d00df N x1 h) fun v1 h2 => (some ((), h2)))
theorem t_J4_setLength_d00df {N : Nat} {ρ : Nat} {δ : Nat} {x1 : Int32} {h : xm_H} {w : Unit × xm_H}  (hS : xS ρ δ h) (hf : f_J4_setLength_d00df N x1 h = some w) : xm_Rn xX 5 288 [.ref 300, .int x1] h (xjv w.1) w.2 ∧ xS ρ δ w.2 := by
  refine xt_mk (φ := fun h => xS ρ δ h) (M := xM_J4_setLength_d00df) (ls := [some (.ref 300), some (.int x1)]) rfl (Nat.le_of_ble_eq_true rfl) rfl (fun Q hQ => ?_)
  unfold f_J4_setLength_d00df at hf
  refine xw_G (pc' := 1) (st' := [.ref 300]) rfl rfl trivial ?_
  refine xw_G (pc' := 2) (st' := [.int x1, .ref 300]) rfl rfl trivial ?_
  refine xb_e hf (fun v1 h2 e3 hf => ?_)
  refine xw_I7 (v := none) rfl rfl (xkf (xs_k hS rfl rfl : xm_k h 300 = (13, 0))) (Nat.le_of_ble_eq_true rfl) (Nat.le_of_ble_eq_true rfl) (xm_Rn_le (Nat.le_of_ble_eq_true rfl) (t_J5_setLength_d00df  hS e3).1) ?_
  have hS := (t_J5_setLength_d00df  hS e3).2
  show xm_W _ _ _ 5 _ [] _
  exact xr_v (inj := xjv) rfl rfl hf hQ hS
def f_J5_inflateIfNeededFor_a7421 (x1 : Nat) (h : xm_H) : Option (Unit × xm_H) := (if (xm_k h x1).1 = 12 then (xb (f_J0_coder_7d493 x1 h) fun v1 h2 => (if (xm_i h 300 1) = v1 then (some ((), h2)) else none)) else none)
theorem t_J5_inflateIfNeededFor_a7421 {ρ : Nat} {δ : Nat} {x1 : Nat} {h : xm_H} {w : Unit × xm_H}  (hS : xS ρ δ h) (hf : f_J5_inflateIfNeededFor_a7421 x1 h = some w) : xm_Rn xX 2 264 [.ref 300, .ref x1] h (xjv w.1) w.2 ∧ xS ρ δ w.2 := by
  refine xt_mk (φ := fun h => xS ρ δ h) (M := xM_J5_inflateIfNeededFor_a7421) (ls := [some (.ref 300), some (.ref x1)]) rfl (Nat.le_of_ble_eq_true rfl) rfl (fun Q hQ => ?_)
  unfold f_J5_inflateIfNeededFor_a7421 at hf
  refine xw_G (pc' := 3) (st' := [.int (1 : Int32)]) rfl rfl trivial ?_
  refine xw_G (pc' := 6) (st' := []) rfl rfl trivial ?_
  refine xw_G (pc' := 7) (st' := [.ref 300]) rfl rfl trivial ?_
  refine xw_G (pc' := 10) (st' := [.int (xm_i h 300 1)]) rfl rfl (xkf (xs_k hS rfl rfl : xm_k h 300 = (13, 0))) ?_
  refine xw_G (pc' := 11) (st' := [.ref x1, .int (xm_i h 300 1)]) rfl rfl trivial ?_
  refine xg_e hf (fun hg4 hf => ?_)
  refine xb_e hf (fun v1 h2 e3 hf => ?_)
  refine xw_V (v := some (.int v1)) rfl rfl hg4 (Nat.le_of_ble_eq_true rfl) (Nat.le_of_ble_eq_true rfl) (xm_Rn_le (Nat.le_of_ble_eq_true rfl) (t_J0_coder_7d493  hS e3).1) ?_
  have hS := (t_J0_coder_7d493  hS e3).2
  show xm_W _ _ _ 14 _ [.int v1, .int (xm_i h 300 1)] _
  refine xj_ic_eq rfl hf (fun hc5 hf => ?_) (fun hc5 hf => ?_)
  · exact xr_v (inj := xjv) rfl rfl hf hQ hS
  · refine xw_G (pc' := 18) (st' := [.ref 300]) rfl rfl trivial ?_
    exact (xn_e hf).elim
def f_J1_inflate_0e8fd (x0 : Nat) (x1 : Int32) (x2 : Nat) (x3 : Int32) (x4 : Int32) (h : xm_H) : Option (Unit × xm_H) := none
theorem t_J1_inflate_0e8fd {ρ : Nat} {δ : Nat} {x0 : Nat} {x1 : Int32} {x2 : Nat} {x3 : Int32} {x4 : Int32} {h : xm_H} {w : Unit × xm_H}  (hS : xS ρ δ h) (hf : f_J1_inflate_0e8fd x0 x1 x2 x3 x4 h = some w) : xm_Rn xX 1 294 [.ref x0, .int x1, .ref x2, .int x3, .int x4] h (xjv w.1) w.2 ∧ xS ρ δ w.2 := by
  refine xt_mk (φ := fun h => xS ρ δ h) (M := xM_J1_inflate_0e8fd) (ls := [some (.ref x0), some (.int x1), some (.ref x2), some (.int x3), some (.int x4)]) rfl (Nat.le_of_ble_eq_true rfl) rfl (fun Q hQ => ?_)
  unfold f_J1_inflate_0e8fd at hf
  refine xw_G (pc' := 1) (st' := [.ref x0]) rfl rfl trivial ?_
  refine xw_G (pc' := 2) (st' := [.int x1, .ref x0]) rfl rfl trivial ?_
  refine xw_G (pc' := 3) (st' := [.ref x2, .int x1, .ref x0]) rfl rfl trivial ?_
  refine xw_G (pc' := 4) (st' := [.int x3, .ref x2, .int x1, .ref x0]) rfl rfl trivial ?_
  refine xw_G (pc' := 6) (st' := [.int x4, .int x3, .ref x2, .int x1, .ref x0]) rfl rfl trivial ?_
  exact (xn_e hf).elim
def f_J0_getBytes_840e7 (x0 : Nat) (x1 : Nat) (x2 : Int32) (x3 : Int32) (h : xm_H) : Option (Unit × xm_H) := (if (xm_k h x0).1 = 12 then (xb (f_J0_coder_7d493 x0 h) fun v1 h2 => (if v1 = x3 then (if (xm_k h2 x0).1 = 12 then (xbr (xm_r h2 x0 0) fun b7 => (if (xm_k h2 x0).1 = 12 then (xbr (xm_r h2 x0 0) fun b10 => (if 100 ≤ (xm_k h2 b10).1 ∧ (xm_k h2 b10).1 < 109 then (if (xm_k h2 b7).1 = 102 then (if (xm_k h2 x1).1 = 102 then (if 160 ≤ x1 then (if ¬ (Int32.ofNat (xm_k h2 b10).2) < 0 then (if ¬ (x2 <<< (x3 &&& 31)) < 0 then (if 0 + Int32.toNatClampNeg (Int32.ofNat (xm_k h2 b10).2) ≤ (xm_k h2 b7).2 then (if Int32.toNatClampNeg (x2 <<< (x3 &&& 31)) + Int32.toNatClampNeg (Int32.ofNat (xm_k h2 b10).2) ≤ (xm_k h2 x1).2 then (if ∀ i, i < Int32.toNatClampNeg (Int32.ofNat (xm_k h2 b10).2) → fits (xm_ty 2) (.int (xm_i h2 b7 (0 + i))) = true then (xl (xm_cp h2 b7 0 x1 (Int32.toNatClampNeg (x2 <<< (x3 &&& 31))) (Int32.toNatClampNeg (Int32.ofNat (xm_k h2 b10).2))) fun h21 => (some ((), h21))) else none) else none) else none) else none) else none) else none) else none) else none) else none)) else none)) else none) else (if (xm_k h2 x0).1 = 12 then (xbr (xm_r h2 x0 0) fun b24 => (if (xm_k h2 x0).1 = 12 then (xbr (xm_r h2 x0 0) fun b27 => (if 100 ≤ (xm_k h2 b27).1 ∧ (xm_k h2 b27).1 < 109 then (xb (f_J1_inflate_0e8fd b24 (0 : Int32) x1 x2 (Int32.ofNat (xm_k h2 b27).2) h2) fun v30 h31 => (some ((), h31))) else none)) else none)) else none))) else none)
theorem t_J0_getBytes_840e7 {ρ : Nat} {δ : Nat} {x0 : Nat} {x1 : Nat} {x2 : Int32} {x3 : Int32} {h : xm_H} {w : Unit × xm_H}  (hS : xS ρ δ h) (hf : f_J0_getBytes_840e7 x0 x1 x2 x3 h = some w) : xm_Rn xX 2 274 [.ref x0, .ref x1, .int x2, .int x3] h (xjv w.1) w.2 ∧ xS ρ δ w.2 := by
  refine xt_mk (φ := fun h => xS ρ δ h) (M := xM_J0_getBytes_840e7) (ls := [some (.ref x0), some (.ref x1), some (.int x2), some (.int x3)]) rfl (Nat.le_of_ble_eq_true rfl) rfl (fun Q hQ => ?_)
  unfold f_J0_getBytes_840e7 at hf
  refine xw_G (pc' := 1) (st' := [.ref x0]) rfl rfl trivial ?_
  refine xg_e hf (fun hg4 hf => ?_)
  refine xb_e hf (fun v1 h2 e3 hf => ?_)
  refine xw_V (v := some (.int v1)) rfl rfl hg4 (Nat.le_of_ble_eq_true rfl) (Nat.le_of_ble_eq_true rfl) (xm_Rn_le (Nat.le_of_ble_eq_true rfl) (t_J0_coder_7d493  hS e3).1) ?_
  have hS := (t_J0_coder_7d493  hS e3).2
  show xm_W _ _ _ 4 _ [.int v1] _
  refine xw_G (pc' := 5) (st' := [.int x3, .int v1]) rfl rfl trivial ?_
  refine xj_ic_ne rfl hf (fun hc5 hf => ?_) (fun hc5 hf => ?_)
  · refine xw_G (pc' := 9) (st' := [.ref x0]) rfl rfl trivial ?_
    refine xg_e hf (fun hg6 hf => ?_)
    refine xbr_e hf (fun b7 hr8 hf => ?_)
    refine xw_gr rfl hg6 hr8 ?_
    refine xw_G (pc' := 13) (st' := [.int (0 : Int32), .ref b7]) rfl rfl trivial ?_
    refine xw_G (pc' := 14) (st' := [.ref x1, .int (0 : Int32), .ref b7]) rfl rfl trivial ?_
    refine xw_G (pc' := 15) (st' := [.int x2, .ref x1, .int (0 : Int32), .ref b7]) rfl rfl trivial ?_
    refine xw_G (pc' := 16) (st' := [.int x3, .int x2, .ref x1, .int (0 : Int32), .ref b7]) rfl rfl trivial ?_
    refine xw_G (pc' := 17) (st' := [.int (x2 <<< (x3 &&& 31)), .ref x1, .int (0 : Int32), .ref b7]) rfl rfl trivial ?_
    refine xw_G (pc' := 18) (st' := [.ref x0, .int (x2 <<< (x3 &&& 31)), .ref x1, .int (0 : Int32), .ref b7]) rfl rfl trivial ?_
    refine xg_e hf (fun hg9 hf => ?_)
    refine xbr_e hf (fun b10 hr11 hf => ?_)
    refine xw_gr rfl hg9 hr11 ?_
    refine xg_e hf (fun hg12 hf => ?_)
    refine xa_len rfl hg12 rfl ?_
    refine xg_e hf (fun hg13 hf => ?_)
    refine xg_e hf (fun hg14 hf => ?_)
    refine xg_e hf (fun hg15 hf => ?_)
    refine xg_e hf (fun hg16 hf => ?_)
    refine xg_e hf (fun hg17 hf => ?_)
    refine xg_e hf (fun hg18 hf => ?_)
    refine xg_e hf (fun hg19 hf => ?_)
    refine xg_e hf (fun hg20 hf => ?_)
    refine xa_cp rfl hg20 hg13 hg14 hg15 hg16 hg17 (by decide) hg18 hg19 (Nat.le_of_ble_eq_true rfl) hf (fun h21 e22 hf => ?_)
    have hS := xS_cp hS e22
    refine xw_G (pc' := 43) (st' := []) rfl rfl trivial ?_
    exact xr_v (inj := xjv) rfl rfl hf hQ hS
  · refine xw_G (pc' := 29) (st' := [.ref x0]) rfl rfl trivial ?_
    refine xg_e hf (fun hg23 hf => ?_)
    refine xbr_e hf (fun b24 hr25 hf => ?_)
    refine xw_gr rfl hg23 hr25 ?_
    refine xw_G (pc' := 33) (st' := [.int (0 : Int32), .ref b24]) rfl rfl trivial ?_
    refine xw_G (pc' := 34) (st' := [.ref x1, .int (0 : Int32), .ref b24]) rfl rfl trivial ?_
    refine xw_G (pc' := 35) (st' := [.int x2, .ref x1, .int (0 : Int32), .ref b24]) rfl rfl trivial ?_
    refine xw_G (pc' := 36) (st' := [.ref x0, .int x2, .ref x1, .int (0 : Int32), .ref b24]) rfl rfl trivial ?_
    refine xg_e hf (fun hg26 hf => ?_)
    refine xbr_e hf (fun b27 hr28 hf => ?_)
    refine xw_gr rfl hg26 hr28 ?_
    refine xg_e hf (fun hg29 hf => ?_)
    refine xa_len rfl hg29 rfl ?_
    refine xb_e hf (fun v30 h31 e32 hf => ?_)
    refine xw_S (v := none) rfl (Nat.le_of_ble_eq_true rfl) (Nat.le_of_ble_eq_true rfl) (xm_Rn_le (Nat.le_of_ble_eq_true rfl) (t_J1_inflate_0e8fd  hS e32).1) ?_
    have hS := (t_J1_inflate_0e8fd  hS e32).2
    show xm_W _ _ _ 43 _ [] _
    exact xr_v (inj := xjv) rfl rfl hf hQ hS
def f_J5_putStringAt_47b60 (x1 : Int32) (x2 : Nat) (h : xm_H) : Option (Unit × xm_H) := (xb (f_J5_inflateIfNeededFor_a7421 x2 h) fun v1 h2 => (xbr (xm_r h2 300 0) fun b4 => (if (xm_k h2 x2).1 = 12 then (xb (f_J0_getBytes_840e7 x2 b4 x1 (xm_i h2 300 1) h2) fun v6 h7 => (some ((), h7))) else none)))
theorem t_J5_putStringAt_47b60 {ρ : Nat} {δ : Nat} {x1 : Int32} {x2 : Nat} {h : xm_H} {w : Unit × xm_H}  (hS : xS ρ δ h) (hf : f_J5_putStringAt_47b60 x1 x2 h = some w) : xm_Rn xX 3 265 [.ref 300, .int x1, .ref x2] h (xjv w.1) w.2 ∧ xS ρ δ w.2 := by
  refine xt_mk (φ := fun h => xS ρ δ h) (M := xM_J5_putStringAt_47b60) (ls := [some (.ref 300), some (.int x1), some (.ref x2)]) rfl (Nat.le_of_ble_eq_true rfl) rfl (fun Q hQ => ?_)
  unfold f_J5_putStringAt_47b60 at hf
  refine xw_G (pc' := 1) (st' := [.ref 300]) rfl rfl trivial ?_
  refine xw_G (pc' := 2) (st' := [.ref x2, .ref 300]) rfl rfl trivial ?_
  refine xb_e hf (fun v1 h2 e3 hf => ?_)
  refine xw_V6 (v := none) rfl rfl (xkf (xs_k hS rfl rfl : xm_k h 300 = (13, 0))) (Nat.le_of_ble_eq_true rfl) (Nat.le_of_ble_eq_true rfl) (xm_Rn_le (Nat.le_of_ble_eq_true rfl) (t_J5_inflateIfNeededFor_a7421  hS e3).1) ?_
  have hS := (t_J5_inflateIfNeededFor_a7421  hS e3).2
  show xm_W _ _ _ 5 _ [] _
  refine xw_G (pc' := 6) (st' := [.ref x2]) rfl rfl trivial ?_
  refine xw_G (pc' := 7) (st' := [.ref 300, .ref x2]) rfl rfl trivial ?_
  refine xbr_e hf (fun b4 hr5 hf => ?_)
  refine xw_gr rfl (xkf (xs_k hS rfl rfl : xm_k h2 300 = (13, 0))) hr5 ?_
  refine xw_G (pc' := 11) (st' := [.int x1, .ref b4, .ref x2]) rfl rfl trivial ?_
  refine xw_G (pc' := 12) (st' := [.ref 300, .int x1, .ref b4, .ref x2]) rfl rfl trivial ?_
  refine xw_G (pc' := 15) (st' := [.int (xm_i h2 300 1), .int x1, .ref b4, .ref x2]) rfl rfl (xkf (xs_k hS rfl rfl : xm_k h2 300 = (13, 0))) ?_
  refine xg_e hf (fun hg9 hf => ?_)
  refine xb_e hf (fun v6 h7 e8 hf => ?_)
  refine xw_V (v := none) rfl rfl hg9 (Nat.le_of_ble_eq_true rfl) (Nat.le_of_ble_eq_true rfl) (xm_Rn_le (Nat.le_of_ble_eq_true rfl) (t_J0_getBytes_840e7  hS e8).1) ?_
  have hS := (t_J0_getBytes_840e7  hS e8).2
  show xm_W _ _ _ 18 _ [] _
  exact xr_v (inj := xjv) rfl rfl hf hQ hS
def f_J5_append_cf1ce (x1 : Nat) (h : xm_H) : Option (Nat × xm_H) := (if (xm_k h x1).1 = 12 then (xb (f_J0_length_8abf5 x1 h) fun v1 h2 => (xb (f_J5_ensureCapacityInternal_d00df ((xm_i h2 300 3) + v1) h2) fun v5 h6 => (xb (f_J5_putStringAt_47b60 (xm_i h6 300 3) x1 h6) fun v8 h9 => (xl (xm_si h9 300 3 ((xm_i h9 300 3) + v1)) fun h11 => (some (300, h11)))))) else none)
theorem t_J5_append_cf1ce {ρ : Nat} {δ : Nat} {x1 : Nat} {h : xm_H} {w : Nat × xm_H}  (hS : xS ρ δ h) (hf : f_J5_append_cf1ce x1 h = some w) : xm_Rn xX 4 258 [.ref 300, .ref x1] h (xjr w.1) w.2 ∧ xS ρ δ w.2 := by
  refine xt_mk (φ := fun h => xS ρ δ h) (M := xM_J5_append_cf1ce) (ls := [some (.ref 300), some (.ref x1), none]) rfl (Nat.le_of_ble_eq_true rfl) rfl (fun Q hQ => ?_)
  unfold f_J5_append_cf1ce at hf
  refine xw_G (pc' := 1) (st' := [.ref x1]) rfl rfl trivial ?_
  refine xw_G (pc' := 9) (st' := []) rfl rfl trivial ?_
  refine xw_G (pc' := 10) (st' := [.ref x1]) rfl rfl trivial ?_
  refine xg_e hf (fun hg4 hf => ?_)
  refine xb_e hf (fun v1 h2 e3 hf => ?_)
  refine xw_V (v := some (.int v1)) rfl rfl hg4 (Nat.le_of_ble_eq_true rfl) (Nat.le_of_ble_eq_true rfl) (xm_Rn_le (Nat.le_of_ble_eq_true rfl) (t_J0_length_8abf5  hS e3).1) ?_
  have hS := (t_J0_length_8abf5  hS e3).2
  show xm_W _ _ _ 13 _ [.int v1] _
  refine xw_G (pc' := 14) (ls' := [some (.ref 300), some (.ref x1), some (.int v1)]) (st' := []) rfl rfl (Nat.le_of_ble_eq_true rfl) ?_
  refine xw_G (pc' := 15) (st' := [.ref 300]) rfl rfl trivial ?_
  refine xw_G (pc' := 16) (st' := [.ref 300, .ref 300]) rfl rfl trivial ?_
  refine xw_G (pc' := 19) (st' := [.int (xm_i h2 300 3), .ref 300]) rfl rfl (xkf (xs_k hS rfl rfl : xm_k h2 300 = (13, 0))) ?_
  refine xw_G (pc' := 20) (st' := [.int v1, .int (xm_i h2 300 3), .ref 300]) rfl rfl trivial ?_
  refine xw_G (pc' := 21) (st' := [.int ((xm_i h2 300 3) + v1), .ref 300]) rfl rfl trivial ?_
  refine xb_e hf (fun v5 h6 e7 hf => ?_)
  refine xw_V6 (v := none) rfl rfl (xkf (xs_k hS rfl rfl : xm_k h2 300 = (13, 0))) (Nat.le_of_ble_eq_true rfl) (Nat.le_of_ble_eq_true rfl) (xm_Rn_le (Nat.le_of_ble_eq_true rfl) (t_J5_ensureCapacityInternal_d00df  hS e7).1) ?_
  have hS := (t_J5_ensureCapacityInternal_d00df  hS e7).2
  show xm_W _ _ _ 24 _ [] _
  refine xw_G (pc' := 25) (st' := [.ref 300]) rfl rfl trivial ?_
  refine xw_G (pc' := 26) (st' := [.ref 300, .ref 300]) rfl rfl trivial ?_
  refine xw_G (pc' := 29) (st' := [.int (xm_i h6 300 3), .ref 300]) rfl rfl (xkf (xs_k hS rfl rfl : xm_k h6 300 = (13, 0))) ?_
  refine xw_G (pc' := 30) (st' := [.ref x1, .int (xm_i h6 300 3), .ref 300]) rfl rfl trivial ?_
  refine xb_e hf (fun v8 h9 e10 hf => ?_)
  refine xw_V6 (v := none) rfl rfl (xkf (xs_k hS rfl rfl : xm_k h6 300 = (13, 0))) (Nat.le_of_ble_eq_true rfl) (Nat.le_of_ble_eq_true rfl) (xm_Rn_le (Nat.le_of_ble_eq_true rfl) (t_J5_putStringAt_47b60  hS e10).1) ?_
  have hS := (t_J5_putStringAt_47b60  hS e10).2
  show xm_W _ _ _ 33 _ [] _
  refine xw_G (pc' := 34) (st' := [.ref 300]) rfl rfl trivial ?_
  refine xw_G (pc' := 35) (st' := [.ref 300, .ref 300]) rfl rfl rfl ?_
  refine xw_G (pc' := 38) (st' := [.int (xm_i h9 300 3), .ref 300]) rfl rfl (xkf (xs_k hS rfl rfl : xm_k h9 300 = (13, 0))) ?_
  refine xw_G (pc' := 39) (st' := [.int v1, .int (xm_i h9 300 3), .ref 300]) rfl rfl trivial ?_
  refine xw_G (pc' := 40) (st' := [.int ((xm_i h9 300 3) + v1), .ref 300]) rfl rfl trivial ?_
  refine xp_i rfl (xkf (xs_k hS rfl rfl : xm_k h9 300 = (13, 0))) (Nat.le_of_ble_eq_true rfl) hf (fun h11 e12 hf => ?_)
  have hS := xS_si hS e12
  refine xw_G (pc' := 44) (st' := [.ref 300]) rfl rfl trivial ?_
  exact xr_r (inj := xjr) rfl rfl hf hQ hS
def f_J4_append_15ec4 (x1 : Nat) (h : xm_H) : Option (Nat × xm_H) := (xb (f_J5_append_cf1ce x1 h) fun v1 h2 => (if v1 = 300 then (some (300, h2)) else none))
theorem t_J4_append_15ec4 {ρ : Nat} {δ : Nat} {x1 : Nat} {h : xm_H} {w : Nat × xm_H}  (hS : xS ρ δ h) (hf : f_J4_append_15ec4 x1 h = some w) : xm_Rn xX 5 283 [.ref 300, .ref x1] h (xjr w.1) w.2 ∧ xS ρ δ w.2 := by
  refine xt_mk (φ := fun h => xS ρ δ h) (M := xM_J4_append_15ec4) (ls := [some (.ref 300), some (.ref x1)]) rfl (Nat.le_of_ble_eq_true rfl) rfl (fun Q hQ => ?_)
  unfold f_J4_append_15ec4 at hf
  refine xw_G (pc' := 1) (st' := [.ref 300]) rfl rfl trivial ?_
  refine xw_G (pc' := 2) (st' := [.ref x1, .ref 300]) rfl rfl trivial ?_
  refine xb_e hf (fun v1 h2 e3 hf => ?_)
  refine xg_e hf (fun hg4 hg4f => ?_)
  subst hg4
  replace hf := hg4f
  refine xw_I7 (v := some (.ref 300)) rfl rfl (xkf (xs_k hS rfl rfl : xm_k h 300 = (13, 0))) (Nat.le_of_ble_eq_true rfl) (Nat.le_of_ble_eq_true rfl) (xm_Rn_le (Nat.le_of_ble_eq_true rfl) (t_J5_append_cf1ce  hS e3).1) ?_
  have hS := (t_J5_append_cf1ce  hS e3).2
  show xm_W _ _ _ 5 _ [.ref 300] _
  refine xw_G (pc' := 6) (st' := []) rfl rfl rfl ?_
  refine xw_G (pc' := 7) (st' := [.ref 300]) rfl rfl trivial ?_
  exact xr_r (inj := xjr) rfl rfl hf hQ hS
def f_J1_canEncode_fc78d (x0 : Int32) (h : xm_H) : Option (Int32 × xm_H) := (if (255 : Int32) < x0 then (some ((0 : Int32), h)) else (some ((1 : Int32), h)))
theorem t_J1_canEncode_fc78d {ρ : Nat} {δ : Nat} {x0 : Int32} {h : xm_H} {w : Int32 × xm_H}  (hS : xS ρ δ h) (hf : f_J1_canEncode_fc78d x0 h = some w) : xm_Rn xX 1 292 [.int x0] h (xji w.1) w.2 ∧ xS ρ δ w.2 := by
  refine xt_mk (φ := fun h => xS ρ δ h) (M := xM_J1_canEncode_fc78d) (ls := [some (.int x0)]) rfl (Nat.le_of_ble_eq_true rfl) rfl (fun Q hQ => ?_)
  unfold f_J1_canEncode_fc78d at hf
  refine xw_G (pc' := 1) (st' := [.int x0]) rfl rfl trivial ?_
  refine xw_G (pc' := 4) (st' := [.int (255 : Int32), .int x0]) rfl rfl trivial ?_
  refine xj_ic_gt rfl hf (fun hc1 hf => ?_) (fun hc1 hf => ?_)
  · refine xw_G (pc' := 12) (st' := [.int (0 : Int32)]) rfl rfl trivial ?_
    exact xr_i (inj := xji) rfl rfl rfl rfl hf hQ hS
  · refine xw_G (pc' := 8) (st' := [.int (1 : Int32)]) rfl rfl trivial ?_
    refine xw_G (pc' := 12) (st' := [.int (1 : Int32)]) rfl rfl trivial ?_
    exact xr_i (inj := xji) rfl rfl rfl rfl hf hQ hS
def f_J5_append_3fe6f (x1 : Int32) (h : xm_H) : Option (Nat × xm_H) := (xb (f_J5_ensureCapacityInternal_d00df ((xm_i h 300 3) + (1 : Int32)) h) fun v1 h2 => (xb (f_J5_isLatin1_aae02 h2) fun v4 h5 => (if v4 = 0 then (xb (f_J5_isLatin1_aae02 h5) fun v8 h9 => (if v8 = 0 then (xbr (xm_r h9 300 0) fun b12 => (xl (xm_si h9 300 3 ((xm_i h9 300 3) + (1 : Int32))) fun h14 => none)) else none)) else (xb (f_J1_canEncode_fc78d x1 h5) fun v16 h17 => (if v16 = 0 then (xb (f_J5_isLatin1_aae02 h17) fun v20 h21 => (if v20 = 0 then (xbr (xm_r h21 300 0) fun b24 => (xl (xm_si h21 300 3 ((xm_i h21 300 3) + (1 : Int32))) fun h26 => none)) else none)) else (xbr (xm_r h17 300 0) fun b28 => (xl (xm_si h17 300 3 ((xm_i h17 300 3) + (1 : Int32))) fun h30 => (if (xm_k h30 b28).1 = 102 then (if xin (xm_i h17 300 3) (xm_k h30 b28).2 then (if 160 ≤ b28 then (xl (xm_si h30 b28 (Int32.toNatClampNeg (xm_i h17 300 3)) (vp_nar .byte ((Int32.toInt8 x1).toInt32))) fun h35 => (some (300, h35))) else none) else none) else none))))))))
theorem t_J5_append_3fe6f {ρ : Nat} {δ : Nat} {x1 : Int32} {h : xm_H} {w : Nat × xm_H}  (hS : xS ρ δ h) (hf : f_J5_append_3fe6f x1 h = some w) : xm_Rn xX 4 260 [.ref 300, .int x1] h (xjr w.1) w.2 ∧ xS ρ δ w.2 := by
  refine xt_mk (φ := fun h => xS ρ δ h) (M := xM_J5_append_3fe6f) (ls := [some (.ref 300), some (.int x1)]) rfl (Nat.le_of_ble_eq_true rfl) rfl (fun Q hQ => ?_)
  unfold f_J5_append_3fe6f at hf
  refine xw_G (pc' := 1) (st' := [.ref 300]) rfl rfl trivial ?_
  refine xw_G (pc' := 2) (st' := [.ref 300, .ref 300]) rfl rfl trivial ?_
  refine xw_G (pc' := 5) (st' := [.int (xm_i h 300 3), .ref 300]) rfl rfl (xkf (xs_k hS rfl rfl : xm_k h 300 = (13, 0))) ?_
  refine xw_G (pc' := 6) (st' := [.int (1 : Int32), .int (xm_i h 300 3), .ref 300]) rfl rfl trivial ?_
  refine xw_G (pc' := 7) (st' := [.int ((xm_i h 300 3) + (1 : Int32)), .ref 300]) rfl rfl trivial ?_
  refine xb_e hf (fun v1 h2 e3 hf => ?_)
  refine xw_V6 (v := none) rfl rfl (xkf (xs_k hS rfl rfl : xm_k h 300 = (13, 0))) (Nat.le_of_ble_eq_true rfl) (Nat.le_of_ble_eq_true rfl) (xm_Rn_le (Nat.le_of_ble_eq_true rfl) (t_J5_ensureCapacityInternal_d00df  hS e3).1) ?_
  have hS := (t_J5_ensureCapacityInternal_d00df  hS e3).2
  show xm_W _ _ _ 10 _ [] _
  refine xw_G (pc' := 11) (st' := [.ref 300]) rfl rfl trivial ?_
  refine xb_e hf (fun v4 h5 e6 hf => ?_)
  refine xw_V6 (v := some (.int v4)) rfl rfl (xkf (xs_k hS rfl rfl : xm_k h2 300 = (13, 0))) (Nat.le_of_ble_eq_true rfl) (Nat.le_of_ble_eq_true rfl) (xm_Rn_le (Nat.le_of_ble_eq_true rfl) (t_J5_isLatin1_aae02  hS e6).1) ?_
  have hS := (t_J5_isLatin1_aae02  hS e6).2
  show xm_W _ _ _ 14 _ [.int v4] _
  refine xj_if_eq rfl hf (fun hc7 hf => ?_) (fun hc7 hf => ?_)
  · refine xw_G (pc' := 46) (st' := [.ref 300]) rfl rfl trivial ?_
    refine xb_e hf (fun v8 h9 e10 hf => ?_)
    refine xw_V6 (v := some (.int v8)) rfl rfl (xkf (xs_k hS rfl rfl : xm_k h5 300 = (13, 0))) (Nat.le_of_ble_eq_true rfl) (Nat.le_of_ble_eq_true rfl) (xm_Rn_le (Nat.le_of_ble_eq_true rfl) (t_J5_isLatin1_aae02  hS e10).1) ?_
    have hS := (t_J5_isLatin1_aae02  hS e10).2
    show xm_W _ _ _ 49 _ [.int v8] _
    refine xj_if_eq rfl hf (fun hc11 hf => ?_) (fun hc11 hf => ?_)
    · refine xw_G (pc' := 57) (st' := [.ref 300]) rfl rfl trivial ?_
      refine xbr_e hf (fun b12 hr13 hf => ?_)
      refine xw_gr rfl (xkf (xs_k hS rfl rfl : xm_k h9 300 = (13, 0))) hr13 ?_
      refine xw_G (pc' := 61) (st' := [.ref 300, .ref b12]) rfl rfl trivial ?_
      refine xw_G (pc' := 62) (st' := [.ref 300, .ref 300, .ref b12]) rfl rfl rfl ?_
      refine xw_G (pc' := 65) (st' := [.int (xm_i h9 300 3), .ref 300, .ref b12]) rfl rfl (xkf (xs_k hS rfl rfl : xm_k h9 300 = (13, 0))) ?_
      refine xw_G (pc' := 66) (st' := [.int (xm_i h9 300 3), .ref 300, .int (xm_i h9 300 3), .ref b12]) rfl rfl ⟨rfl, rfl⟩ ?_
      refine xw_G (pc' := 67) (st' := [.int (1 : Int32), .int (xm_i h9 300 3), .ref 300, .int (xm_i h9 300 3), .ref b12]) rfl rfl trivial ?_
      refine xw_G (pc' := 68) (st' := [.int ((xm_i h9 300 3) + (1 : Int32)), .ref 300, .int (xm_i h9 300 3), .ref b12]) rfl rfl trivial ?_
      refine xp_i rfl (xkf (xs_k hS rfl rfl : xm_k h9 300 = (13, 0))) (Nat.le_of_ble_eq_true rfl) hf (fun h14 e15 hf => ?_)
      have hS := xS_si hS e15
      refine xw_G (pc' := 72) (st' := [.int x1, .int (xm_i h9 300 3), .ref b12]) rfl rfl trivial ?_
      exact (xn_e hf).elim
    · refine xw_G (pc' := 53) (st' := [.ref 300]) rfl rfl trivial ?_
      exact (xn_e hf).elim
  · refine xw_G (pc' := 18) (st' := [.int x1]) rfl rfl trivial ?_
    refine xb_e hf (fun v16 h17 e18 hf => ?_)
    refine xw_S (v := some (.int v16)) rfl (Nat.le_of_ble_eq_true rfl) (Nat.le_of_ble_eq_true rfl) (xm_Rn_le (Nat.le_of_ble_eq_true rfl) (t_J1_canEncode_fc78d  hS e18).1) ?_
    have hS := (t_J1_canEncode_fc78d  hS e18).2
    show xm_W _ _ _ 21 _ [.int v16] _
    refine xj_if_eq rfl hf (fun hc19 hf => ?_) (fun hc19 hf => ?_)
    · refine xw_G (pc' := 46) (st' := [.ref 300]) rfl rfl trivial ?_
      refine xb_e hf (fun v20 h21 e22 hf => ?_)
      refine xw_V6 (v := some (.int v20)) rfl rfl (xkf (xs_k hS rfl rfl : xm_k h17 300 = (13, 0))) (Nat.le_of_ble_eq_true rfl) (Nat.le_of_ble_eq_true rfl) (xm_Rn_le (Nat.le_of_ble_eq_true rfl) (t_J5_isLatin1_aae02  hS e22).1) ?_
      have hS := (t_J5_isLatin1_aae02  hS e22).2
      show xm_W _ _ _ 49 _ [.int v20] _
      refine xj_if_eq rfl hf (fun hc23 hf => ?_) (fun hc23 hf => ?_)
      · refine xw_G (pc' := 57) (st' := [.ref 300]) rfl rfl trivial ?_
        refine xbr_e hf (fun b24 hr25 hf => ?_)
        refine xw_gr rfl (xkf (xs_k hS rfl rfl : xm_k h21 300 = (13, 0))) hr25 ?_
        refine xw_G (pc' := 61) (st' := [.ref 300, .ref b24]) rfl rfl trivial ?_
        refine xw_G (pc' := 62) (st' := [.ref 300, .ref 300, .ref b24]) rfl rfl rfl ?_
        refine xw_G (pc' := 65) (st' := [.int (xm_i h21 300 3), .ref 300, .ref b24]) rfl rfl (xkf (xs_k hS rfl rfl : xm_k h21 300 = (13, 0))) ?_
        refine xw_G (pc' := 66) (st' := [.int (xm_i h21 300 3), .ref 300, .int (xm_i h21 300 3), .ref b24]) rfl rfl ⟨rfl, rfl⟩ ?_
        refine xw_G (pc' := 67) (st' := [.int (1 : Int32), .int (xm_i h21 300 3), .ref 300, .int (xm_i h21 300 3), .ref b24]) rfl rfl trivial ?_
        refine xw_G (pc' := 68) (st' := [.int ((xm_i h21 300 3) + (1 : Int32)), .ref 300, .int (xm_i h21 300 3), .ref b24]) rfl rfl trivial ?_
        refine xp_i rfl (xkf (xs_k hS rfl rfl : xm_k h21 300 = (13, 0))) (Nat.le_of_ble_eq_true rfl) hf (fun h26 e27 hf => ?_)
        have hS := xS_si hS e27
        refine xw_G (pc' := 72) (st' := [.int x1, .int (xm_i h21 300 3), .ref b24]) rfl rfl trivial ?_
        exact (xn_e hf).elim
      · refine xw_G (pc' := 53) (st' := [.ref 300]) rfl rfl trivial ?_
        exact (xn_e hf).elim
    · refine xw_G (pc' := 25) (st' := [.ref 300]) rfl rfl trivial ?_
      refine xbr_e hf (fun b28 hr29 hf => ?_)
      refine xw_gr rfl (xkf (xs_k hS rfl rfl : xm_k h17 300 = (13, 0))) hr29 ?_
      refine xw_G (pc' := 29) (st' := [.ref 300, .ref b28]) rfl rfl trivial ?_
      refine xw_G (pc' := 30) (st' := [.ref 300, .ref 300, .ref b28]) rfl rfl rfl ?_
      refine xw_G (pc' := 33) (st' := [.int (xm_i h17 300 3), .ref 300, .ref b28]) rfl rfl (xkf (xs_k hS rfl rfl : xm_k h17 300 = (13, 0))) ?_
      refine xw_G (pc' := 34) (st' := [.int (xm_i h17 300 3), .ref 300, .int (xm_i h17 300 3), .ref b28]) rfl rfl ⟨rfl, rfl⟩ ?_
      refine xw_G (pc' := 35) (st' := [.int (1 : Int32), .int (xm_i h17 300 3), .ref 300, .int (xm_i h17 300 3), .ref b28]) rfl rfl trivial ?_
      refine xw_G (pc' := 36) (st' := [.int ((xm_i h17 300 3) + (1 : Int32)), .ref 300, .int (xm_i h17 300 3), .ref b28]) rfl rfl trivial ?_
      refine xp_i rfl (xkf (xs_k hS rfl rfl : xm_k h17 300 = (13, 0))) (Nat.le_of_ble_eq_true rfl) hf (fun h30 e31 hf => ?_)
      have hS := xS_si hS e31
      refine xw_G (pc' := 40) (st' := [.int x1, .int (xm_i h17 300 3), .ref b28]) rfl rfl trivial ?_
      refine xw_G (pc' := 41) (st' := [.int ((Int32.toInt8 x1).toInt32), .int (xm_i h17 300 3), .ref b28]) rfl rfl trivial ?_
      refine xg_e hf (fun hg32 hf => ?_)
      refine xg_e hf (fun hg33 hf => ?_)
      refine xg_e hf (fun hg34 hf => ?_)
      refine xa_b rfl hg32 rfl hg33 hg34 hf (fun h35 e36 hf => ?_)
      have hS := xS_si hS e36
      refine xw_G (pc' := 75) (st' := []) rfl rfl trivial ?_
      refine xw_G (pc' := 76) (st' := [.ref 300]) rfl rfl trivial ?_
      exact xr_r (inj := xjr) rfl rfl hf hQ hS
def f_J4_append_cf468 (x1 : Int32) (h : xm_H) : Option (Nat × xm_H) := (xb (f_J5_append_3fe6f x1 h) fun v1 h2 => (if v1 = 300 then (some (300, h2)) else none))
theorem t_J4_append_cf468 {ρ : Nat} {δ : Nat} {x1 : Int32} {h : xm_H} {w : Nat × xm_H}  (hS : xS ρ δ h) (hf : f_J4_append_cf468 x1 h = some w) : xm_Rn xX 5 284 [.ref 300, .int x1] h (xjr w.1) w.2 ∧ xS ρ δ w.2 := by
  refine xt_mk (φ := fun h => xS ρ δ h) (M := xM_J4_append_cf468) (ls := [some (.ref 300), some (.int x1)]) rfl (Nat.le_of_ble_eq_true rfl) rfl (fun Q hQ => ?_)
  unfold f_J4_append_cf468 at hf
  refine xw_G (pc' := 1) (st' := [.ref 300]) rfl rfl trivial ?_
  refine xw_G (pc' := 2) (st' := [.int x1, .ref 300]) rfl rfl trivial ?_
  refine xb_e hf (fun v1 h2 e3 hf => ?_)
  refine xg_e hf (fun hg4 hg4f => ?_)
  subst hg4
  replace hf := hg4f
  refine xw_I7 (v := some (.ref 300)) rfl rfl (xkf (xs_k hS rfl rfl : xm_k h 300 = (13, 0))) (Nat.le_of_ble_eq_true rfl) (Nat.le_of_ble_eq_true rfl) (xm_Rn_le (Nat.le_of_ble_eq_true rfl) (t_J5_append_3fe6f  hS e3).1) ?_
  have hS := (t_J5_append_3fe6f  hS e3).2
  show xm_W _ _ _ 5 _ [.ref 300] _
  refine xw_G (pc' := 6) (st' := []) rfl rfl rfl ?_
  refine xw_G (pc' := 7) (st' := [.ref 300]) rfl rfl trivial ?_
  exact xr_r (inj := xjr) rfl rfl hf hQ hS
def f_X10_modeWord (x0 : Int32) (h : xm_H) : Option (Nat × xm_H) := (if x0 = 0 then (some (51, h)) else (if x0 = (1 : Int32) then (some (53, h)) else (some (55, h))))
theorem t_X10_modeWord {ρ : Nat} {δ : Nat} {x0 : Int32} {h : xm_H} {w : Nat × xm_H}  (hS : xS ρ δ h) (hf : f_X10_modeWord x0 h = some w) : xm_Rn xX 1 123 [.int x0] h (xjr w.1) w.2 ∧ xS ρ δ w.2 := by
  refine xt_mk (φ := fun h => xS ρ δ h) (M := xM_X10_modeWord) (ls := [some (.int x0)]) rfl (Nat.le_of_ble_eq_true rfl) rfl (fun Q hQ => ?_)
  unfold f_X10_modeWord at hf
  refine xw_G (pc' := 1) (st' := [.int x0]) rfl rfl trivial ?_
  refine xj_if_ne rfl hf (fun hc1 hf => ?_) (fun hc1 hf => ?_)
  · refine xw_G (pc' := 7) (st' := [.ref 51]) rfl rfl trivial ?_
    exact xr_r (inj := xjr) rfl rfl hf hQ hS
  · refine xw_G (pc' := 9) (st' := [.int x0]) rfl rfl trivial ?_
    refine xw_G (pc' := 10) (st' := [.int (1 : Int32), .int x0]) rfl rfl trivial ?_
    refine xj_ic_ne rfl hf (fun hc2 hf => ?_) (fun hc2 hf => ?_)
    · refine xw_G (pc' := 16) (st' := [.ref 53]) rfl rfl trivial ?_
      refine xw_G (pc' := 22) (st' := [.ref 53]) rfl rfl trivial ?_
      exact xr_r (inj := xjr) rfl rfl hf hQ hS
    · refine xw_G (pc' := 22) (st' := [.ref 55]) rfl rfl trivial ?_
      exact xr_r (inj := xjr) rfl rfl hf hQ hS
def f_J6_stringSize_0f7a4_16B (N : Nat) (c0 : Int32) (c1 : Int32) (rec : Int32 → Int32 → xm_H → Option (Int32 × xm_H)) (c2 : Int32) (c3 : Int32) (h : xm_H) : Option (Int32 × xm_H) := (if c3 < (10 : Int32) then (if c2 < c0 then (some (c3 + c1, h)) else (rec ((10 : Int32) * c2) (c3 + (1 : Int32)) h)) else (some ((10 : Int32) + c1, h)))
def f_J6_stringSize_0f7a4_16 (N : Nat) (c0 : Int32) (c1 : Int32) : Nat → Int32 → Int32 → xm_H → Option (Int32 × xm_H)
  | 0 => fun _ _ _ => none
  | n + 1 => fun c2 c3 h => f_J6_stringSize_0f7a4_16B N c0 c1 (f_J6_stringSize_0f7a4_16 N c0 c1 n) c2 c3 h
def f_J6_stringSize_0f7a4 (N : Nat) (x0 : Int32) (h : xm_H) : Option (Int32 × xm_H) := (if x0 < 0 then (f_J6_stringSize_0f7a4_16 N x0 (1 : Int32) N (-10 : Int32) (1 : Int32) h) else (f_J6_stringSize_0f7a4_16 N (-x0) (0 : Int32) N (-10 : Int32) (1 : Int32) h))
theorem tl_J6_stringSize_0f7a4_16 {ρ : Nat} {δ : Nat} {N : Nat} {c0 : Int32} {c1 : Int32} {Q : xm_O → xm_H → Prop} {w : Int32 × xm_H}  (hQ : xS ρ δ w.2 → Q (xji w.1) w.2)  : ∀ (n : Nat) (c2 : Int32) (c3 : Int32) (h : xm_H), xS ρ δ h → f_J6_stringSize_0f7a4_16 N c0 c1 n c2 c3 h = some w → xm_W (xm_Rn xX 0) xM_J6_stringSize_0f7a4 Q 16 [some (.int c0), some (.int c1), some (.int c2), some (.int c3)] [] h := by
  intro n
  induction n with
  | zero =>
    intro c2 c3 h hS hf
    exact (xn_e hf).elim
  | succ n ih =>
    intro c2 c3 h hS hf
    replace hf : f_J6_stringSize_0f7a4_16B N c0 c1 (f_J6_stringSize_0f7a4_16 N c0 c1 n) c2 c3 h = some w := hf
    unfold f_J6_stringSize_0f7a4_16B at hf
    refine xw_K (pc' := 17) (ls' := [some (.int c0), some (.int c1), some (.int c2), some (.int c3)]) (st' := [.int c3]) rfl rfl trivial ?_
    refine xw_G (pc' := 19) (st' := [.int (10 : Int32), .int c3]) rfl rfl trivial ?_
    refine xj_ic_ge rfl hf (fun hc1 hf => ?_) (fun hc1 hf => ?_)
    · refine xw_G (pc' := 23) (st' := [.int c0]) rfl rfl trivial ?_
      refine xw_G (pc' := 24) (st' := [.int c2, .int c0]) rfl rfl trivial ?_
      refine xj_ic_le rfl hf (fun hc2 hf => ?_) (fun hc2 hf => ?_)
      · refine xw_G (pc' := 28) (st' := [.int c3]) rfl rfl trivial ?_
        refine xw_G (pc' := 29) (st' := [.int c1, .int c3]) rfl rfl trivial ?_
        refine xw_G (pc' := 30) (st' := [.int (c3 + c1)]) rfl rfl trivial ?_
        exact xr_i (inj := xji) rfl rfl rfl rfl hf hQ hS
      · refine xw_G (pc' := 33) (st' := [.int (10 : Int32)]) rfl rfl trivial ?_
        refine xw_G (pc' := 34) (st' := [.int c2, .int (10 : Int32)]) rfl rfl trivial ?_
        refine xw_G (pc' := 35) (st' := [.int ((10 : Int32) * c2)]) rfl rfl trivial ?_
        refine xw_G (pc' := 36) (ls' := [some (.int c0), some (.int c1), some (.int ((10 : Int32) * c2)), some (.int c3)]) (st' := []) rfl rfl (Nat.le_of_ble_eq_true rfl) ?_
        refine xw_G (pc' := 39) (ls' := [some (.int c0), some (.int c1), some (.int ((10 : Int32) * c2)), some (.int (c3 + (1 : Int32)))]) (st' := []) rfl rfl (Nat.le_of_ble_eq_true rfl) ?_
        refine xw_G (pc' := 16) (st' := []) rfl rfl trivial ?_
        refine xw_M rfl rfl ?_
        exact ih _ _ _ hS hf
    · refine xw_G (pc' := 44) (st' := [.int (10 : Int32)]) rfl rfl trivial ?_
      refine xw_G (pc' := 45) (st' := [.int c1, .int (10 : Int32)]) rfl rfl trivial ?_
      refine xw_G (pc' := 46) (st' := [.int ((10 : Int32) + c1)]) rfl rfl trivial ?_
      exact xr_i (inj := xji) rfl rfl rfl rfl hf hQ hS
theorem t_J6_stringSize_0f7a4 {N : Nat} {ρ : Nat} {δ : Nat} {x0 : Int32} {h : xm_H} {w : Int32 × xm_H}  (hS : xS ρ δ h) (hf : f_J6_stringSize_0f7a4 N x0 h = some w) : xm_Rn xX 1 268 [.int x0] h (xji w.1) w.2 ∧ xS ρ δ w.2 := by
  refine xt_mk (φ := fun h => xS ρ δ h) (M := xM_J6_stringSize_0f7a4) (ls := [some (.int x0), none, none, none]) rfl (Nat.le_of_ble_eq_true rfl) rfl (fun Q hQ => ?_)
  unfold f_J6_stringSize_0f7a4 at hf
  refine xw_G (pc' := 1) (st' := [.int (1 : Int32)]) rfl rfl trivial ?_
  refine xw_G (pc' := 2) (ls' := [some (.int x0), some (.int (1 : Int32)), none, none]) (st' := []) rfl rfl (Nat.le_of_ble_eq_true rfl) ?_
  refine xw_G (pc' := 3) (st' := [.int x0]) rfl rfl trivial ?_
  refine xj_if_lt rfl hf (fun hc1 hf => ?_) (fun hc1 hf => ?_)
  · refine xw_G (pc' := 13) (st' := [.int (-10 : Int32)]) rfl rfl trivial ?_
    refine xw_G (pc' := 14) (ls' := [some (.int x0), some (.int (1 : Int32)), some (.int (-10 : Int32)), none]) (st' := []) rfl rfl (Nat.le_of_ble_eq_true rfl) ?_
    refine xw_G (pc' := 15) (st' := [.int (1 : Int32)]) rfl rfl trivial ?_
    refine xw_G (pc' := 16) (ls' := [some (.int x0), some (.int (1 : Int32)), some (.int (-10 : Int32)), some (.int (1 : Int32))]) (st' := []) rfl rfl (Nat.le_of_ble_eq_true rfl) ?_
    refine xw_M rfl rfl ?_
    refine tl_J6_stringSize_0f7a4_16  hQ  _ _ _ _ hS hf
  · refine xw_G (pc' := 7) (st' := [.int (0 : Int32)]) rfl rfl trivial ?_
    refine xw_G (pc' := 8) (ls' := [some (.int x0), some (.int (0 : Int32)), none, none]) (st' := []) rfl rfl (Nat.le_of_ble_eq_true rfl) ?_
    refine xw_G (pc' := 9) (st' := [.int x0]) rfl rfl trivial ?_
    refine xw_G (pc' := 10) (st' := [.int (-x0)]) rfl rfl trivial ?_
    refine xw_G (pc' := 11) (ls' := [some (.int (-x0)), some (.int (0 : Int32)), none, none]) (st' := []) rfl rfl (Nat.le_of_ble_eq_true rfl) ?_
    refine xw_G (pc' := 13) (st' := [.int (-10 : Int32)]) rfl rfl trivial ?_
    refine xw_G (pc' := 14) (ls' := [some (.int (-x0)), some (.int (0 : Int32)), some (.int (-10 : Int32)), none]) (st' := []) rfl rfl (Nat.le_of_ble_eq_true rfl) ?_
    refine xw_G (pc' := 15) (st' := [.int (1 : Int32)]) rfl rfl trivial ?_
    refine xw_G (pc' := 16) (ls' := [some (.int (-x0)), some (.int (0 : Int32)), some (.int (-10 : Int32)), some (.int (1 : Int32))]) (st' := []) rfl rfl (Nat.le_of_ble_eq_true rfl) ?_
    refine xw_M rfl rfl ?_
    refine tl_J6_stringSize_0f7a4_16  hQ  _ _ _ _ hS hf
def f_J6_getChars_ba4f3_22B (N : Nat) (c2 : Nat) (c6 : Int32) (k72 : Int32 → Int32 → xm_H → Option (Int32 × xm_H)) (rec : Int32 → Int32 → xm_H → Option (Int32 × xm_H)) (c0 : Int32) (c5 : Int32) (h : xm_H) : Option (Int32 × xm_H) := (if (-100 : Int32) < c0 then (k72 c0 c5 h) else (if (xm_k h 1).1 = 102 then (if xin (((c0 / (100 : Int32)) * (100 : Int32)) - c0) (xm_k h 1).2 then (if (xm_k h c2).1 = 102 then (if xin (c5 + (-1 : Int32)) (xm_k h c2).2 then (if 160 ≤ c2 then (xl (xm_si h c2 (Int32.toNatClampNeg (c5 + (-1 : Int32))) (vp_nar .byte (xm_i h 1 (Int32.toNatClampNeg (((c0 / (100 : Int32)) * (100 : Int32)) - c0))))) fun h7 => (if (xm_k h7 2).1 = 102 then (if xin (((c0 / (100 : Int32)) * (100 : Int32)) - c0) (xm_k h7 2).2 then (if (xm_k h7 c2).1 = 102 then (if xin ((c5 + (-1 : Int32)) + (-1 : Int32)) (xm_k h7 c2).2 then (if 160 ≤ c2 then (xl (xm_si h7 c2 (Int32.toNatClampNeg ((c5 + (-1 : Int32)) + (-1 : Int32))) (vp_nar .byte (xm_i h7 2 (Int32.toNatClampNeg (((c0 / (100 : Int32)) * (100 : Int32)) - c0))))) fun h14 => (rec (c0 / (100 : Int32)) ((c5 + (-1 : Int32)) + (-1 : Int32)) h14)) else none) else none) else none) else none) else none)) else none) else none) else none) else none) else none))
def f_J6_getChars_ba4f3_22 (N : Nat) (c2 : Nat) (c6 : Int32) (k72 : Int32 → Int32 → xm_H → Option (Int32 × xm_H)) : Nat → Int32 → Int32 → xm_H → Option (Int32 × xm_H)
  | 0 => fun _ _ _ => none
  | n + 1 => fun c0 c5 h => f_J6_getChars_ba4f3_22B N c2 c6 k72 (f_J6_getChars_ba4f3_22 N c2 c6 k72 n) c0 c5 h
def f_J6_getChars_ba4f3 (N : Nat) (x0 : Int32) (x1 : Int32) (x2 : Nat) (h : xm_H) : Option (Int32 × xm_H) := (if x0 < 0 then (f_J6_getChars_ba4f3_22 N x2 (1 : Int32) (fun (e2 : Int32) (e3 : Int32) (h4 : xm_H) => (if (xm_k h4 1).1 = 102 then (if xin (-e2) (xm_k h4 1).2 then (if (xm_k h4 x2).1 = 102 then (if xin (e3 + (-1 : Int32)) (xm_k h4 x2).2 then (if 160 ≤ x2 then (xl (xm_si h4 x2 (Int32.toNatClampNeg (e3 + (-1 : Int32))) (vp_nar .byte (xm_i h4 1 (Int32.toNatClampNeg (-e2))))) fun h10 => (if e2 < (-9 : Int32) then (if (xm_k h10 2).1 = 102 then (if xin (-e2) (xm_k h10 2).2 then (if (xm_k h10 x2).1 = 102 then (if xin ((e3 + (-1 : Int32)) + (-1 : Int32)) (xm_k h10 x2).2 then (if 160 ≤ x2 then (xl (xm_si h10 x2 (Int32.toNatClampNeg ((e3 + (-1 : Int32)) + (-1 : Int32))) (vp_nar .byte (xm_i h10 2 (Int32.toNatClampNeg (-e2))))) fun h18 => (if (xm_k h18 x2).1 = 102 then (if xin (((e3 + (-1 : Int32)) + (-1 : Int32)) + (-1 : Int32)) (xm_k h18 x2).2 then (if 160 ≤ x2 then (xl (xm_si h18 x2 (Int32.toNatClampNeg (((e3 + (-1 : Int32)) + (-1 : Int32)) + (-1 : Int32))) (vp_nar .byte (45 : Int32))) fun h23 => (some (((e3 + (-1 : Int32)) + (-1 : Int32)) + (-1 : Int32), h23))) else none) else none) else none)) else none) else none) else none) else none) else none) else (if (xm_k h10 x2).1 = 102 then (if xin ((e3 + (-1 : Int32)) + (-1 : Int32)) (xm_k h10 x2).2 then (if 160 ≤ x2 then (xl (xm_si h10 x2 (Int32.toNatClampNeg ((e3 + (-1 : Int32)) + (-1 : Int32))) (vp_nar .byte (45 : Int32))) fun h28 => (some ((e3 + (-1 : Int32)) + (-1 : Int32), h28))) else none) else none) else none))) else none) else none) else none) else none) else none)) N x0 x1 h) else (f_J6_getChars_ba4f3_22 N x2 (0 : Int32) (fun (e30 : Int32) (e31 : Int32) (h32 : xm_H) => (if (xm_k h32 1).1 = 102 then (if xin (-e30) (xm_k h32 1).2 then (if (xm_k h32 x2).1 = 102 then (if xin (e31 + (-1 : Int32)) (xm_k h32 x2).2 then (if 160 ≤ x2 then (xl (xm_si h32 x2 (Int32.toNatClampNeg (e31 + (-1 : Int32))) (vp_nar .byte (xm_i h32 1 (Int32.toNatClampNeg (-e30))))) fun h38 => (if e30 < (-9 : Int32) then (if (xm_k h38 2).1 = 102 then (if xin (-e30) (xm_k h38 2).2 then (if (xm_k h38 x2).1 = 102 then (if xin ((e31 + (-1 : Int32)) + (-1 : Int32)) (xm_k h38 x2).2 then (if 160 ≤ x2 then (xl (xm_si h38 x2 (Int32.toNatClampNeg ((e31 + (-1 : Int32)) + (-1 : Int32))) (vp_nar .byte (xm_i h38 2 (Int32.toNatClampNeg (-e30))))) fun h46 => (some ((e31 + (-1 : Int32)) + (-1 : Int32), h46))) else none) else none) else none) else none) else none) else (some (e31 + (-1 : Int32), h38)))) else none) else none) else none) else none) else none)) N (-x0) x1 h))
theorem tl_J6_getChars_ba4f3_22 {ρ : Nat} {δ : Nat} {N : Nat} {c2 : Nat} {c6 : Int32} {k72 : Int32 → Int32 → xm_H → Option (Int32 × xm_H)} {Q : xm_O → xm_H → Prop} {w : Int32 × xm_H}  (hQ : xS ρ δ w.2 → Q (xji w.1) w.2) (hk72 : ∀ (a0 : Int32) (a1 : Int32) (h : xm_H), xS ρ δ h → k72 a0 a1 h = some w → xm_W (xm_Rn xX 0) xM_J6_getChars_ba4f3 Q 72 [some (.int a0), none, some (.ref c2), none, none, some (.int a1), some (.int c6)] [] h) : ∀ (n : Nat) (c0 : Int32) (c5 : Int32) (h : xm_H), xS ρ δ h → f_J6_getChars_ba4f3_22 N c2 c6 k72 n c0 c5 h = some w → xm_W (xm_Rn xX 0) xM_J6_getChars_ba4f3 Q 22 [some (.int c0), none, some (.ref c2), none, none, some (.int c5), some (.int c6)] [] h := by
  intro n
  induction n with
  | zero =>
    intro c0 c5 h hS hf
    exact (xn_e hf).elim
  | succ n ih =>
    intro c0 c5 h hS hf
    replace hf : f_J6_getChars_ba4f3_22B N c2 c6 k72 (f_J6_getChars_ba4f3_22 N c2 c6 k72 n) c0 c5 h = some w := hf
    unfold f_J6_getChars_ba4f3_22B at hf
    refine xw_K (pc' := 23) (ls' := [some (.int c0), none, some (.ref c2), none, none, some (.int c5), some (.int c6)]) (st' := [.int c0]) rfl rfl trivial ?_
    refine xw_G (pc' := 25) (st' := [.int (-100 : Int32), .int c0]) rfl rfl trivial ?_
    refine xj_ic_gt rfl hf (fun hc1 hf => ?_) (fun hc1 hf => ?_)
    · refine xw_M rfl rfl ?_
      exact hk72 _ _ _ hS hf
    · refine xw_G (pc' := 29) (st' := [.int c0]) rfl rfl trivial ?_
      refine xw_G (pc' := 31) (st' := [.int (100 : Int32), .int c0]) rfl rfl trivial ?_
      refine xw_G (pc' := 32) (st' := [.int (c0 / (100 : Int32))]) rfl rfl (by decide) ?_
      refine xw_G (pc' := 33) (ls' := [some (.int c0), none, some (.ref c2), some (.int (c0 / (100 : Int32))), none, some (.int c5), some (.int c6)]) (st' := []) rfl rfl (Nat.le_of_ble_eq_true rfl) ?_
      refine xw_G (pc' := 34) (st' := [.int (c0 / (100 : Int32))]) rfl rfl trivial ?_
      refine xw_G (pc' := 36) (st' := [.int (100 : Int32), .int (c0 / (100 : Int32))]) rfl rfl trivial ?_
      refine xw_G (pc' := 37) (st' := [.int ((c0 / (100 : Int32)) * (100 : Int32))]) rfl rfl trivial ?_
      refine xw_G (pc' := 38) (st' := [.int c0, .int ((c0 / (100 : Int32)) * (100 : Int32))]) rfl rfl trivial ?_
      refine xw_G (pc' := 39) (st' := [.int (((c0 / (100 : Int32)) * (100 : Int32)) - c0)]) rfl rfl trivial ?_
      refine xw_G (pc' := 41) (ls' := [some (.int c0), none, some (.ref c2), some (.int (c0 / (100 : Int32))), some (.int (((c0 / (100 : Int32)) * (100 : Int32)) - c0)), some (.int c5), some (.int c6)]) (st' := []) rfl rfl (Nat.le_of_ble_eq_true rfl) ?_
      refine xw_G (pc' := 42) (st' := [.int (c0 / (100 : Int32))]) rfl rfl trivial ?_
      refine xw_G (pc' := 43) (ls' := [some (.int (c0 / (100 : Int32))), none, some (.ref c2), some (.int (c0 / (100 : Int32))), some (.int (((c0 / (100 : Int32)) * (100 : Int32)) - c0)), some (.int c5), some (.int c6)]) (st' := []) rfl rfl (Nat.le_of_ble_eq_true rfl) ?_
      refine xw_G (pc' := 44) (st' := [.ref c2]) rfl rfl trivial ?_
      refine xw_G (pc' := 47) (ls' := [some (.int (c0 / (100 : Int32))), none, some (.ref c2), some (.int (c0 / (100 : Int32))), some (.int (((c0 / (100 : Int32)) * (100 : Int32)) - c0)), some (.int (c5 + (-1 : Int32))), some (.int c6)]) (st' := [.ref c2]) rfl rfl (Nat.le_of_ble_eq_true rfl) ?_
      refine xw_G (pc' := 49) (st' := [.int (c5 + (-1 : Int32)), .ref c2]) rfl rfl trivial ?_
      refine xw_G (pc' := 52) (st' := [.ref 1, .int (c5 + (-1 : Int32)), .ref c2]) rfl rfl trivial ?_
      refine xw_G (pc' := 54) (st' := [.int (((c0 / (100 : Int32)) * (100 : Int32)) - c0), .ref 1, .int (c5 + (-1 : Int32)), .ref c2]) rfl rfl trivial ?_
      refine xg_e hf (fun hg2 hf => ?_)
      refine xg_e hf (fun hg3 hf => ?_)
      refine xa_ld (t := 102) (τ := 0) (v := .int (xm_i h 1 (Int32.toNatClampNeg (((c0 / (100 : Int32)) * (100 : Int32)) - c0)))) rfl rfl hg2 rfl hg3 rfl ?_
      refine xg_e hf (fun hg4 hf => ?_)
      refine xg_e hf (fun hg5 hf => ?_)
      refine xg_e hf (fun hg6 hf => ?_)
      refine xa_b rfl hg4 rfl hg5 hg6 hf (fun h7 e8 hf => ?_)
      have hS := xS_si hS e8
      refine xw_G (pc' := 57) (st' := [.ref c2]) rfl rfl trivial ?_
      refine xw_G (pc' := 60) (ls' := [some (.int (c0 / (100 : Int32))), none, some (.ref c2), some (.int (c0 / (100 : Int32))), some (.int (((c0 / (100 : Int32)) * (100 : Int32)) - c0)), some (.int ((c5 + (-1 : Int32)) + (-1 : Int32))), some (.int c6)]) (st' := [.ref c2]) rfl rfl (Nat.le_of_ble_eq_true rfl) ?_
      refine xw_G (pc' := 62) (st' := [.int ((c5 + (-1 : Int32)) + (-1 : Int32)), .ref c2]) rfl rfl trivial ?_
      refine xw_G (pc' := 65) (st' := [.ref 2, .int ((c5 + (-1 : Int32)) + (-1 : Int32)), .ref c2]) rfl rfl trivial ?_
      refine xw_G (pc' := 67) (st' := [.int (((c0 / (100 : Int32)) * (100 : Int32)) - c0), .ref 2, .int ((c5 + (-1 : Int32)) + (-1 : Int32)), .ref c2]) rfl rfl trivial ?_
      refine xg_e hf (fun hg9 hf => ?_)
      refine xg_e hf (fun hg10 hf => ?_)
      refine xa_ld (t := 102) (τ := 0) (v := .int (xm_i h7 2 (Int32.toNatClampNeg (((c0 / (100 : Int32)) * (100 : Int32)) - c0)))) rfl rfl hg9 rfl hg10 rfl ?_
      refine xg_e hf (fun hg11 hf => ?_)
      refine xg_e hf (fun hg12 hf => ?_)
      refine xg_e hf (fun hg13 hf => ?_)
      refine xa_b rfl hg11 rfl hg12 hg13 hf (fun h14 e15 hf => ?_)
      have hS := xS_si hS e15
      refine xw_G (pc' := 22) (st' := []) rfl rfl trivial ?_
      refine xw_M rfl rfl ?_
      exact ih _ _ _ hS hf
theorem t_J6_getChars_ba4f3 {N : Nat} {ρ : Nat} {δ : Nat} {x0 : Int32} {x1 : Int32} {x2 : Nat} {h : xm_H} {w : Int32 × xm_H}  (hS : xS ρ δ h) (hf : f_J6_getChars_ba4f3 N x0 x1 x2 h = some w) : xm_Rn xX 1 267 [.int x0, .int x1, .ref x2] h (xji w.1) w.2 ∧ xS ρ δ w.2 := by
  refine xt_mk (φ := fun h => xS ρ δ h) (M := xM_J6_getChars_ba4f3) (ls := [some (.int x0), some (.int x1), some (.ref x2), none, none, none, none]) rfl (Nat.le_of_ble_eq_true rfl) rfl (fun Q hQ => ?_)
  unfold f_J6_getChars_ba4f3 at hf
  refine xw_G (pc' := 1) (st' := [.int x1]) rfl rfl trivial ?_
  refine xw_G (pc' := 3) (ls' := [some (.int x0), some (.int x1), some (.ref x2), none, none, some (.int x1), none]) (st' := []) rfl rfl (Nat.le_of_ble_eq_true rfl) ?_
  refine xw_G (pc' := 4) (st' := [.int x0]) rfl rfl trivial ?_
  refine xj_if_ge rfl hf (fun hc1 hf => ?_) (fun hc1 hf => ?_)
  · refine xw_G (pc' := 8) (st' := [.int (1 : Int32)]) rfl rfl trivial ?_
    refine xw_G (pc' := 12) (st' := [.int (1 : Int32)]) rfl rfl trivial ?_
    refine xw_G (pc' := 14) (ls' := [some (.int x0), some (.int x1), some (.ref x2), none, none, some (.int x1), some (.int (1 : Int32))]) (st' := []) rfl rfl (Nat.le_of_ble_eq_true rfl) ?_
    refine xw_G (pc' := 16) (st' := [.int (1 : Int32)]) rfl rfl trivial ?_
    refine xw_G (pc' := 22) (st' := []) rfl rfl trivial ?_
    refine xw_M rfl rfl ?_
    refine tl_J6_getChars_ba4f3_22  hQ (fun e2 e3 h4 hS hf => ?_) _ _ _ _ hS hf
    refine xw_K (pc' := 73) (ls' := [some (.int e2), none, some (.ref x2), none, none, some (.int e3), some (.int (1 : Int32))]) (st' := [.ref x2]) rfl rfl trivial ?_
    refine xw_G (pc' := 76) (ls' := [some (.int e2), none, some (.ref x2), none, none, some (.int (e3 + (-1 : Int32))), some (.int (1 : Int32))]) (st' := [.ref x2]) rfl rfl (Nat.le_of_ble_eq_true rfl) ?_
    refine xw_G (pc' := 78) (st' := [.int (e3 + (-1 : Int32)), .ref x2]) rfl rfl trivial ?_
    refine xw_G (pc' := 81) (st' := [.ref 1, .int (e3 + (-1 : Int32)), .ref x2]) rfl rfl trivial ?_
    refine xw_G (pc' := 82) (st' := [.int e2, .ref 1, .int (e3 + (-1 : Int32)), .ref x2]) rfl rfl trivial ?_
    refine xw_G (pc' := 83) (st' := [.int (-e2), .ref 1, .int (e3 + (-1 : Int32)), .ref x2]) rfl rfl trivial ?_
    refine xg_e hf (fun hg5 hf => ?_)
    refine xg_e hf (fun hg6 hf => ?_)
    refine xa_ld (t := 102) (τ := 0) (v := .int (xm_i h4 1 (Int32.toNatClampNeg (-e2)))) rfl rfl hg5 rfl hg6 rfl ?_
    refine xg_e hf (fun hg7 hf => ?_)
    refine xg_e hf (fun hg8 hf => ?_)
    refine xg_e hf (fun hg9 hf => ?_)
    refine xa_b rfl hg7 rfl hg8 hg9 hf (fun h10 e11 hf => ?_)
    have hS := xS_si hS e11
    refine xw_G (pc' := 86) (st' := [.int e2]) rfl rfl trivial ?_
    refine xw_G (pc' := 88) (st' := [.int (-9 : Int32), .int e2]) rfl rfl trivial ?_
    refine xj_ic_ge rfl hf (fun hc12 hf => ?_) (fun hc12 hf => ?_)
    · refine xw_G (pc' := 92) (st' := [.ref x2]) rfl rfl trivial ?_
      refine xw_G (pc' := 95) (ls' := [some (.int e2), none, some (.ref x2), none, none, some (.int ((e3 + (-1 : Int32)) + (-1 : Int32))), some (.int (1 : Int32))]) (st' := [.ref x2]) rfl rfl (Nat.le_of_ble_eq_true rfl) ?_
      refine xw_G (pc' := 97) (st' := [.int ((e3 + (-1 : Int32)) + (-1 : Int32)), .ref x2]) rfl rfl trivial ?_
      refine xw_G (pc' := 100) (st' := [.ref 2, .int ((e3 + (-1 : Int32)) + (-1 : Int32)), .ref x2]) rfl rfl trivial ?_
      refine xw_G (pc' := 101) (st' := [.int e2, .ref 2, .int ((e3 + (-1 : Int32)) + (-1 : Int32)), .ref x2]) rfl rfl trivial ?_
      refine xw_G (pc' := 102) (st' := [.int (-e2), .ref 2, .int ((e3 + (-1 : Int32)) + (-1 : Int32)), .ref x2]) rfl rfl trivial ?_
      refine xg_e hf (fun hg13 hf => ?_)
      refine xg_e hf (fun hg14 hf => ?_)
      refine xa_ld (t := 102) (τ := 0) (v := .int (xm_i h10 2 (Int32.toNatClampNeg (-e2)))) rfl rfl hg13 rfl hg14 rfl ?_
      refine xg_e hf (fun hg15 hf => ?_)
      refine xg_e hf (fun hg16 hf => ?_)
      refine xg_e hf (fun hg17 hf => ?_)
      refine xa_b rfl hg15 rfl hg16 hg17 hf (fun h18 e19 hf => ?_)
      have hS := xS_si hS e19
      refine xw_G (pc' := 106) (st' := [.int (1 : Int32)]) rfl rfl trivial ?_
      refine xw_G (pc' := 109) (st' := []) rfl rfl trivial ?_
      refine xw_G (pc' := 110) (st' := [.ref x2]) rfl rfl trivial ?_
      refine xw_G (pc' := 113) (ls' := [some (.int e2), none, some (.ref x2), none, none, some (.int (((e3 + (-1 : Int32)) + (-1 : Int32)) + (-1 : Int32))), some (.int (1 : Int32))]) (st' := [.ref x2]) rfl rfl (Nat.le_of_ble_eq_true rfl) ?_
      refine xw_G (pc' := 115) (st' := [.int (((e3 + (-1 : Int32)) + (-1 : Int32)) + (-1 : Int32)), .ref x2]) rfl rfl trivial ?_
      refine xw_G (pc' := 117) (st' := [.int (45 : Int32), .int (((e3 + (-1 : Int32)) + (-1 : Int32)) + (-1 : Int32)), .ref x2]) rfl rfl trivial ?_
      refine xg_e hf (fun hg20 hf => ?_)
      refine xg_e hf (fun hg21 hf => ?_)
      refine xg_e hf (fun hg22 hf => ?_)
      refine xa_b rfl hg20 rfl hg21 hg22 hf (fun h23 e24 hf => ?_)
      have hS := xS_si hS e24
      refine xw_G (pc' := 120) (st' := [.int (((e3 + (-1 : Int32)) + (-1 : Int32)) + (-1 : Int32))]) rfl rfl trivial ?_
      exact xr_i (inj := xji) rfl rfl rfl rfl hf hQ hS
    · refine xw_G (pc' := 106) (st' := [.int (1 : Int32)]) rfl rfl trivial ?_
      refine xw_G (pc' := 109) (st' := []) rfl rfl trivial ?_
      refine xw_G (pc' := 110) (st' := [.ref x2]) rfl rfl trivial ?_
      refine xw_G (pc' := 113) (ls' := [some (.int e2), none, some (.ref x2), none, none, some (.int ((e3 + (-1 : Int32)) + (-1 : Int32))), some (.int (1 : Int32))]) (st' := [.ref x2]) rfl rfl (Nat.le_of_ble_eq_true rfl) ?_
      refine xw_G (pc' := 115) (st' := [.int ((e3 + (-1 : Int32)) + (-1 : Int32)), .ref x2]) rfl rfl trivial ?_
      refine xw_G (pc' := 117) (st' := [.int (45 : Int32), .int ((e3 + (-1 : Int32)) + (-1 : Int32)), .ref x2]) rfl rfl trivial ?_
      refine xg_e hf (fun hg25 hf => ?_)
      refine xg_e hf (fun hg26 hf => ?_)
      refine xg_e hf (fun hg27 hf => ?_)
      refine xa_b rfl hg25 rfl hg26 hg27 hf (fun h28 e29 hf => ?_)
      have hS := xS_si hS e29
      refine xw_G (pc' := 120) (st' := [.int ((e3 + (-1 : Int32)) + (-1 : Int32))]) rfl rfl trivial ?_
      exact xr_i (inj := xji) rfl rfl rfl rfl hf hQ hS
  · refine xw_G (pc' := 12) (st' := [.int (0 : Int32)]) rfl rfl trivial ?_
    refine xw_G (pc' := 14) (ls' := [some (.int x0), some (.int x1), some (.ref x2), none, none, some (.int x1), some (.int (0 : Int32))]) (st' := []) rfl rfl (Nat.le_of_ble_eq_true rfl) ?_
    refine xw_G (pc' := 16) (st' := [.int (0 : Int32)]) rfl rfl trivial ?_
    refine xw_G (pc' := 19) (st' := []) rfl rfl trivial ?_
    refine xw_G (pc' := 20) (st' := [.int x0]) rfl rfl trivial ?_
    refine xw_G (pc' := 21) (st' := [.int (-x0)]) rfl rfl trivial ?_
    refine xw_G (pc' := 22) (ls' := [some (.int (-x0)), some (.int x1), some (.ref x2), none, none, some (.int x1), some (.int (0 : Int32))]) (st' := []) rfl rfl (Nat.le_of_ble_eq_true rfl) ?_
    refine xw_M rfl rfl ?_
    refine tl_J6_getChars_ba4f3_22  hQ (fun e30 e31 h32 hS hf => ?_) _ _ _ _ hS hf
    refine xw_K (pc' := 73) (ls' := [some (.int e30), none, some (.ref x2), none, none, some (.int e31), some (.int (0 : Int32))]) (st' := [.ref x2]) rfl rfl trivial ?_
    refine xw_G (pc' := 76) (ls' := [some (.int e30), none, some (.ref x2), none, none, some (.int (e31 + (-1 : Int32))), some (.int (0 : Int32))]) (st' := [.ref x2]) rfl rfl (Nat.le_of_ble_eq_true rfl) ?_
    refine xw_G (pc' := 78) (st' := [.int (e31 + (-1 : Int32)), .ref x2]) rfl rfl trivial ?_
    refine xw_G (pc' := 81) (st' := [.ref 1, .int (e31 + (-1 : Int32)), .ref x2]) rfl rfl trivial ?_
    refine xw_G (pc' := 82) (st' := [.int e30, .ref 1, .int (e31 + (-1 : Int32)), .ref x2]) rfl rfl trivial ?_
    refine xw_G (pc' := 83) (st' := [.int (-e30), .ref 1, .int (e31 + (-1 : Int32)), .ref x2]) rfl rfl trivial ?_
    refine xg_e hf (fun hg33 hf => ?_)
    refine xg_e hf (fun hg34 hf => ?_)
    refine xa_ld (t := 102) (τ := 0) (v := .int (xm_i h32 1 (Int32.toNatClampNeg (-e30)))) rfl rfl hg33 rfl hg34 rfl ?_
    refine xg_e hf (fun hg35 hf => ?_)
    refine xg_e hf (fun hg36 hf => ?_)
    refine xg_e hf (fun hg37 hf => ?_)
    refine xa_b rfl hg35 rfl hg36 hg37 hf (fun h38 e39 hf => ?_)
    have hS := xS_si hS e39
    refine xw_G (pc' := 86) (st' := [.int e30]) rfl rfl trivial ?_
    refine xw_G (pc' := 88) (st' := [.int (-9 : Int32), .int e30]) rfl rfl trivial ?_
    refine xj_ic_ge rfl hf (fun hc40 hf => ?_) (fun hc40 hf => ?_)
    · refine xw_G (pc' := 92) (st' := [.ref x2]) rfl rfl trivial ?_
      refine xw_G (pc' := 95) (ls' := [some (.int e30), none, some (.ref x2), none, none, some (.int ((e31 + (-1 : Int32)) + (-1 : Int32))), some (.int (0 : Int32))]) (st' := [.ref x2]) rfl rfl (Nat.le_of_ble_eq_true rfl) ?_
      refine xw_G (pc' := 97) (st' := [.int ((e31 + (-1 : Int32)) + (-1 : Int32)), .ref x2]) rfl rfl trivial ?_
      refine xw_G (pc' := 100) (st' := [.ref 2, .int ((e31 + (-1 : Int32)) + (-1 : Int32)), .ref x2]) rfl rfl trivial ?_
      refine xw_G (pc' := 101) (st' := [.int e30, .ref 2, .int ((e31 + (-1 : Int32)) + (-1 : Int32)), .ref x2]) rfl rfl trivial ?_
      refine xw_G (pc' := 102) (st' := [.int (-e30), .ref 2, .int ((e31 + (-1 : Int32)) + (-1 : Int32)), .ref x2]) rfl rfl trivial ?_
      refine xg_e hf (fun hg41 hf => ?_)
      refine xg_e hf (fun hg42 hf => ?_)
      refine xa_ld (t := 102) (τ := 0) (v := .int (xm_i h38 2 (Int32.toNatClampNeg (-e30)))) rfl rfl hg41 rfl hg42 rfl ?_
      refine xg_e hf (fun hg43 hf => ?_)
      refine xg_e hf (fun hg44 hf => ?_)
      refine xg_e hf (fun hg45 hf => ?_)
      refine xa_b rfl hg43 rfl hg44 hg45 hf (fun h46 e47 hf => ?_)
      have hS := xS_si hS e47
      refine xw_G (pc' := 106) (st' := [.int (0 : Int32)]) rfl rfl trivial ?_
      refine xw_G (pc' := 118) (st' := []) rfl rfl trivial ?_
      refine xw_G (pc' := 120) (st' := [.int ((e31 + (-1 : Int32)) + (-1 : Int32))]) rfl rfl trivial ?_
      exact xr_i (inj := xji) rfl rfl rfl rfl hf hQ hS
    · refine xw_G (pc' := 106) (st' := [.int (0 : Int32)]) rfl rfl trivial ?_
      refine xw_G (pc' := 118) (st' := []) rfl rfl trivial ?_
      refine xw_G (pc' := 120) (st' := [.int (e31 + (-1 : Int32))]) rfl rfl trivial ?_
      exact xr_i (inj := xji) rfl rfl rfl rfl hf hQ hS
def f_J5_append_c97b9 (N : Nat) (x1 : Int32) (h : xm_H) : Option (Nat × xm_H) := (xb (f_J6_stringSize_0f7a4 N x1 h) fun v1 h2 => (xb (f_J5_ensureCapacityInternal_d00df ((xm_i h 300 3) + v1) h2) fun v4 h5 => (xb (f_J5_isLatin1_aae02 h5) fun v7 h8 => (if v7 = 0 then (xbr (xm_r h8 300 0) fun b11 => none) else (xbr (xm_r h8 300 0) fun b13 => (xb (f_J6_getChars_ba4f3 N x1 ((xm_i h 300 3) + v1) b13 h8) fun v15 h16 => (xl (xm_si h16 300 3 ((xm_i h 300 3) + v1)) fun h18 => (some (300, h18)))))))))
theorem t_J5_append_c97b9 {N : Nat} {ρ : Nat} {δ : Nat} {x1 : Int32} {h : xm_H} {w : Nat × xm_H}  (hS : xS ρ δ h) (hf : f_J5_append_c97b9 N x1 h = some w) : xm_Rn xX 4 261 [.ref 300, .int x1] h (xjr w.1) w.2 ∧ xS ρ δ w.2 := by
  refine xt_mk (φ := fun h => xS ρ δ h) (M := xM_J5_append_c97b9) (ls := [some (.ref 300), some (.int x1), none, none]) rfl (Nat.le_of_ble_eq_true rfl) rfl (fun Q hQ => ?_)
  unfold f_J5_append_c97b9 at hf
  refine xw_G (pc' := 1) (st' := [.ref 300]) rfl rfl trivial ?_
  refine xw_G (pc' := 4) (st' := [.int (xm_i h 300 3)]) rfl rfl (xkf (xs_k hS rfl rfl : xm_k h 300 = (13, 0))) ?_
  refine xw_G (pc' := 5) (ls' := [some (.ref 300), some (.int x1), some (.int (xm_i h 300 3)), none]) (st' := []) rfl rfl (Nat.le_of_ble_eq_true rfl) ?_
  refine xw_G (pc' := 6) (st' := [.int (xm_i h 300 3)]) rfl rfl trivial ?_
  refine xw_G (pc' := 7) (st' := [.int x1, .int (xm_i h 300 3)]) rfl rfl trivial ?_
  refine xb_e hf (fun v1 h2 e3 hf => ?_)
  refine xw_S (v := some (.int v1)) rfl (Nat.le_of_ble_eq_true rfl) (Nat.le_of_ble_eq_true rfl) (xm_Rn_le (Nat.le_of_ble_eq_true rfl) (t_J6_stringSize_0f7a4  hS e3).1) ?_
  have hS := (t_J6_stringSize_0f7a4  hS e3).2
  show xm_W _ _ _ 10 _ [.int v1, .int (xm_i h 300 3)] _
  refine xw_G (pc' := 11) (st' := [.int ((xm_i h 300 3) + v1)]) rfl rfl trivial ?_
  refine xw_G (pc' := 12) (ls' := [some (.ref 300), some (.int x1), some (.int (xm_i h 300 3)), some (.int ((xm_i h 300 3) + v1))]) (st' := []) rfl rfl (Nat.le_of_ble_eq_true rfl) ?_
  refine xw_G (pc' := 13) (st' := [.ref 300]) rfl rfl trivial ?_
  refine xw_G (pc' := 14) (st' := [.int ((xm_i h 300 3) + v1), .ref 300]) rfl rfl trivial ?_
  refine xb_e hf (fun v4 h5 e6 hf => ?_)
  refine xw_V6 (v := none) rfl rfl (xkf (xs_k hS rfl rfl : xm_k h2 300 = (13, 0))) (Nat.le_of_ble_eq_true rfl) (Nat.le_of_ble_eq_true rfl) (xm_Rn_le (Nat.le_of_ble_eq_true rfl) (t_J5_ensureCapacityInternal_d00df  hS e6).1) ?_
  have hS := (t_J5_ensureCapacityInternal_d00df  hS e6).2
  show xm_W _ _ _ 17 _ [] _
  refine xw_G (pc' := 18) (st' := [.ref 300]) rfl rfl trivial ?_
  refine xb_e hf (fun v7 h8 e9 hf => ?_)
  refine xw_V6 (v := some (.int v7)) rfl rfl (xkf (xs_k hS rfl rfl : xm_k h5 300 = (13, 0))) (Nat.le_of_ble_eq_true rfl) (Nat.le_of_ble_eq_true rfl) (xm_Rn_le (Nat.le_of_ble_eq_true rfl) (t_J5_isLatin1_aae02  hS e9).1) ?_
  have hS := (t_J5_isLatin1_aae02  hS e9).2
  show xm_W _ _ _ 21 _ [.int v7] _
  refine xj_if_eq rfl hf (fun hc10 hf => ?_) (fun hc10 hf => ?_)
  · refine xw_G (pc' := 38) (st' := [.int x1]) rfl rfl trivial ?_
    refine xw_G (pc' := 39) (st' := [.int (xm_i h 300 3), .int x1]) rfl rfl trivial ?_
    refine xw_G (pc' := 40) (st' := [.int ((xm_i h 300 3) + v1), .int (xm_i h 300 3), .int x1]) rfl rfl trivial ?_
    refine xw_G (pc' := 41) (st' := [.ref 300, .int ((xm_i h 300 3) + v1), .int (xm_i h 300 3), .int x1]) rfl rfl trivial ?_
    refine xbr_e hf (fun b11 hr12 hf => ?_)
    refine xw_gr rfl (xkf (xs_k hS rfl rfl : xm_k h8 300 = (13, 0))) hr12 ?_
    exact (xn_e hf).elim
  · refine xw_G (pc' := 25) (st' := [.int x1]) rfl rfl trivial ?_
    refine xw_G (pc' := 26) (st' := [.int ((xm_i h 300 3) + v1), .int x1]) rfl rfl trivial ?_
    refine xw_G (pc' := 27) (st' := [.ref 300, .int ((xm_i h 300 3) + v1), .int x1]) rfl rfl trivial ?_
    refine xbr_e hf (fun b13 hr14 hf => ?_)
    refine xw_gr rfl (xkf (xs_k hS rfl rfl : xm_k h8 300 = (13, 0))) hr14 ?_
    refine xb_e hf (fun v15 h16 e17 hf => ?_)
    refine xw_S (v := some (.int v15)) rfl (Nat.le_of_ble_eq_true rfl) (Nat.le_of_ble_eq_true rfl) (xm_Rn_le (Nat.le_of_ble_eq_true rfl) (t_J6_getChars_ba4f3  hS e17).1) ?_
    have hS := (t_J6_getChars_ba4f3  hS e17).2
    show xm_W _ _ _ 33 _ [.int v15] _
    refine xw_G (pc' := 34) (st' := []) rfl rfl rfl ?_
    refine xw_G (pc' := 48) (st' := []) rfl rfl trivial ?_
    refine xw_G (pc' := 49) (st' := [.ref 300]) rfl rfl trivial ?_
    refine xw_G (pc' := 50) (st' := [.int ((xm_i h 300 3) + v1), .ref 300]) rfl rfl trivial ?_
    refine xp_i rfl (xkf (xs_k hS rfl rfl : xm_k h16 300 = (13, 0))) (Nat.le_of_ble_eq_true rfl) hf (fun h18 e19 hf => ?_)
    have hS := xS_si hS e19
    refine xw_G (pc' := 54) (st' := [.ref 300]) rfl rfl trivial ?_
    exact xr_r (inj := xjr) rfl rfl hf hQ hS
def f_J4_append_bf812 (N : Nat) (x1 : Int32) (h : xm_H) : Option (Nat × xm_H) := (xb (f_J5_append_c97b9 N x1 h) fun v1 h2 => (if v1 = 300 then (some (300, h2)) else none))
theorem t_J4_append_bf812 {N : Nat} {ρ : Nat} {δ : Nat} {x1 : Int32} {h : xm_H} {w : Nat × xm_H}  (hS : xS ρ δ h) (hf : f_J4_append_bf812 N x1 h = some w) : xm_Rn xX 5 285 [.ref 300, .int x1] h (xjr w.1) w.2 ∧ xS ρ δ w.2 := by
  refine xt_mk (φ := fun h => xS ρ δ h) (M := xM_J4_append_bf812) (ls := [some (.ref 300), some (.int x1)]) rfl (Nat.le_of_ble_eq_true rfl) rfl (fun Q hQ => ?_)
  unfold f_J4_append_bf812 at hf
  refine xw_G (pc' := 1) (st' := [.ref 300]) rfl rfl trivial ?_
  refine xw_G (pc' := 2) (st' := [.int x1, .ref 300]) rfl rfl trivial ?_
  refine xb_e hf (fun v1 h2 e3 hf => ?_)
  refine xg_e hf (fun hg4 hg4f => ?_)
  subst hg4
  replace hf := hg4f
  refine xw_I7 (v := some (.ref 300)) rfl rfl (xkf (xs_k hS rfl rfl : xm_k h 300 = (13, 0))) (Nat.le_of_ble_eq_true rfl) (Nat.le_of_ble_eq_true rfl) (xm_Rn_le (Nat.le_of_ble_eq_true rfl) (t_J5_append_c97b9  hS e3).1) ?_
  have hS := (t_J5_append_c97b9  hS e3).2
  show xm_W _ _ _ 5 _ [.ref 300] _
  refine xw_G (pc' := 6) (st' := []) rfl rfl rfl ?_
  refine xw_G (pc' := 7) (st' := [.ref 300]) rfl rfl trivial ?_
  exact xr_r (inj := xjr) rfl rfl hf hQ hS
def f_J5_length_8abf5  (h : xm_H) : Option (Int32 × xm_H) := (some (xm_i h 300 3, h))
theorem t_J5_length_8abf5 {ρ : Nat} {δ : Nat} {h : xm_H} {w : Int32 × xm_H}  (hS : xS ρ δ h) (hf : f_J5_length_8abf5  h = some w) : xm_Rn xX 1 252 [.ref 300] h (xji w.1) w.2 ∧ xS ρ δ w.2 := by
  refine xt_mk (φ := fun h => xS ρ δ h) (M := xM_J5_length_8abf5) (ls := [some (.ref 300)]) rfl (Nat.le_of_ble_eq_true rfl) rfl (fun Q hQ => ?_)
  unfold f_J5_length_8abf5 at hf
  refine xw_G (pc' := 1) (st' := [.ref 300]) rfl rfl trivial ?_
  refine xw_G (pc' := 4) (st' := [.int (xm_i h 300 3)]) rfl rfl (xkf (xs_k hS rfl rfl : xm_k h 300 = (13, 0))) ?_
  exact xr_i (inj := xji) rfl rfl rfl rfl hf hQ hS
def f_J4_length_8abf5  (h : xm_H) : Option (Int32 × xm_H) := (xb (f_J5_length_8abf5 h) fun v1 h2 => (some (v1, h2)))
theorem t_J4_length_8abf5 {ρ : Nat} {δ : Nat} {h : xm_H} {w : Int32 × xm_H}  (hS : xS ρ δ h) (hf : f_J4_length_8abf5  h = some w) : xm_Rn xX 2 289 [.ref 300] h (xji w.1) w.2 ∧ xS ρ δ w.2 := by
  refine xt_mk (φ := fun h => xS ρ δ h) (M := xM_J4_length_8abf5) (ls := [some (.ref 300)]) rfl (Nat.le_of_ble_eq_true rfl) rfl (fun Q hQ => ?_)
  unfold f_J4_length_8abf5 at hf
  refine xw_G (pc' := 1) (st' := [.ref 300]) rfl rfl trivial ?_
  refine xb_e hf (fun v1 h2 e3 hf => ?_)
  refine xw_I7 (v := some (.int v1)) rfl rfl (xkf (xs_k hS rfl rfl : xm_k h 300 = (13, 0))) (Nat.le_of_ble_eq_true rfl) (Nat.le_of_ble_eq_true rfl) (xm_Rn_le (Nat.le_of_ble_eq_true rfl) (t_J5_length_8abf5  hS e3).1) ?_
  have hS := (t_J5_length_8abf5  hS e3).2
  show xm_W _ _ _ 4 _ [.int v1] _
  exact xr_i (inj := xji) rfl rfl rfl rfl hf hQ hS
def f_X10_write (N : Nat) (ρ : Nat) (x1 : Int32) (h : xm_H) : Option ((Int32 ⊕ Nat × Nat) × xm_H) := (xe (f_X10_requireCampaign ρ x1 h) (fun v1 h2 => (xb (f_J4_setLength_d00df N (0 : Int32) h2) fun v4 h5 => (if xin x1 8 then (xbr (xm_r h5 (ρ + 10 + Int32.toNatClampNeg x1) 0) fun b8 => (xb (f_J4_append_15ec4 b8 h5) fun v10 h11 => (if v10 = 300 then (xb (f_J4_append_cf468 (32 : Int32) h11) fun v14 h15 => (if v14 = 300 then (xb (f_X10_modeWord (xm_i h15 205 (Int32.toNatClampNeg x1)) h15) fun v18 h19 => (xb (f_J4_append_15ec4 v18 h19) fun v21 h22 => (if v21 = 300 then (xb (f_J4_append_15ec4 57 h22) fun v25 h26 => (if v25 = 300 then (xb (f_J4_append_bf812 N (xm_i h26 206 (Int32.toNatClampNeg x1)) h26) fun v29 h30 => (if v29 = 300 then (xb (f_J4_append_cf468 (47 : Int32) h30) fun v33 h34 => (if v33 = 300 then (xb (f_J4_append_bf812 N (xm_i h34 204 (Int32.toNatClampNeg x1)) h34) fun v37 h38 => (if v37 = 300 then (xb (f_J4_append_15ec4 59 h38) fun v41 h42 => (if v41 = 300 then (xb (f_X2_pacedBid x1 h42) fun v45 h46 => (xb (f_J4_append_bf812 N v45 h46) fun v48 h49 => (if v48 = 300 then (if (xm_i h49 208 (Int32.toNatClampNeg x1)) = 0 then (xb (f_X4_usersReached N x1 (xm_i h49 201 2) h49) fun v53 h54 => (if 0 < v53 then (xb (f_J4_append_15ec4 63 h54) fun v57 h58 => (if v57 = 300 then (xb (f_J4_append_bf812 N v53 h58) fun v61 h62 => (if v61 = 300 then (xb (f_J4_length_8abf5 h62) fun v65 h66 => (some (.inl v65, h66))) else none)) else none)) else (xb (f_J4_length_8abf5 h54) fun v68 h69 => (some (.inl v68, h69))))) else (xb (f_J4_append_15ec4 61 h49) fun v71 h72 => (if v71 = 300 then (xb (f_X4_usersReached N x1 (xm_i h72 201 2) h72) fun v75 h76 => (if 0 < v75 then (xb (f_J4_append_15ec4 63 h76) fun v79 h80 => (if v79 = 300 then (xb (f_J4_append_bf812 N v75 h80) fun v83 h84 => (if v83 = 300 then (xb (f_J4_length_8abf5 h84) fun v87 h88 => (some (.inl v87, h88))) else none)) else none)) else (xb (f_J4_length_8abf5 h76) fun v90 h91 => (some (.inl v90, h91))))) else none))) else none))) else none)) else none)) else none)) else none)) else none)) else none))) else none)) else none))) else none))) (fun q93 h94 => (some (.inr q93, h94))))
theorem t_X10_write {N : Nat} {ρ : Nat} {δ : Nat} {x1 : Int32} {h : xm_H} {w : (Int32 ⊕ Nat × Nat) × xm_H}  (hS : xS ρ δ h) (hf : f_X10_write N ρ x1 h = some w) : xm_Rn xX 6 121 [.ref 160, .int x1] h (xti w.1) w.2 ∧ xS ρ δ w.2 := by
  refine xt_mk (φ := fun h => xS ρ δ h) (M := xM_X10_write) (ls := [some (.ref 160), some (.int x1), none, none]) rfl (Nat.le_of_ble_eq_true rfl) rfl (fun Q hQ => ?_)
  unfold f_X10_write at hf
  refine xw_G (pc' := 1) (st' := [.ref 160]) rfl rfl trivial ?_
  refine xw_G (pc' := 2) (st' := [.int x1, .ref 160]) rfl rfl trivial ?_
  refine xe_e hf (fun v1 h2 e3 hf => ?_) (fun q93 h94 e3 hf => ?_)
  · refine xw_V (v := none) rfl rfl (xkf (xs_k hS rfl rfl : xm_k h 160 = (0, 0))) (Nat.le_of_ble_eq_true rfl) (Nat.le_of_ble_eq_true rfl) (xm_Rn_le (Nat.le_of_ble_eq_true rfl) (t_X10_requireCampaign  hS e3).1) ?_
    have hS := (t_X10_requireCampaign  hS e3).2
    show xm_W _ _ _ 5 _ [] _
    refine xw_G (pc' := 6) (st' := [.ref 160]) rfl rfl trivial ?_
    refine xw_gr rfl (xkf (xs_k hS rfl rfl : xm_k h2 160 = (0, 0))) (xs_r hS rfl) ?_
    refine xw_gr rfl (xkf (xs_k hS rfl rfl : xm_k h2 182 = (3, 0))) (xs_r hS rfl) ?_
    refine xw_G (pc' := 13) (ls' := [some (.ref 160), some (.int x1), some (.ref 201), none]) (st' := []) rfl rfl (Nat.le_of_ble_eq_true rfl) ?_
    refine xw_G (pc' := 14) (st' := [.ref 160]) rfl rfl trivial ?_
    refine xw_gr rfl (xkf (xs_k hS rfl rfl : xm_k h2 160 = (0, 0))) (xs_r hS rfl) ?_
    refine xw_G (pc' := 18) (st' := [.int (0 : Int32), .ref 300]) rfl rfl trivial ?_
    refine xb_e hf (fun v4 h5 e6 hf => ?_)
    refine xw_V (v := none) rfl rfl (xkf (xs_k hS rfl rfl : xm_k h2 300 = (13, 0))) (Nat.le_of_ble_eq_true rfl) (Nat.le_of_ble_eq_true rfl) (xm_Rn_le (Nat.le_of_ble_eq_true rfl) (t_J4_setLength_d00df  hS e6).1) ?_
    have hS := (t_J4_setLength_d00df  hS e6).2
    show xm_W _ _ _ 21 _ [] _
    refine xw_G (pc' := 22) (st' := [.ref 160]) rfl rfl trivial ?_
    refine xw_gr rfl (xkf (xs_k hS rfl rfl : xm_k h5 160 = (0, 0))) (xs_r hS rfl) ?_
    refine xw_G (pc' := 26) (st' := [.ref 160, .ref 300]) rfl rfl trivial ?_
    refine xw_gr rfl (xkf (xs_k hS rfl rfl : xm_k h5 160 = (0, 0))) (xs_r hS rfl) ?_
    refine xw_gr rfl (xkf (xs_k hS rfl rfl : xm_k h5 182 = (3, 0))) (xs_rho hS) ?_
    refine xw_gr rfl (xkf (xsR0 hS (xs_R hS))) (xsRr6 hS (xs_R hS)) ?_
    refine xw_G (pc' := 36) (st' := [.int x1, .ref (ρ + 9), .ref 300]) rfl rfl trivial ?_
    refine xg_e hf (fun hg7 hf => ?_)
    refine xa_ar (b := (ρ + 10 + Int32.toNatClampNeg x1)) rfl (xkf (xsR9 hS (xs_R hS))) (xkn (xsR9 hS (xs_R hS))) hg7 (xsCam hS (xs_R hS) hg7) ?_
    refine xbr_e hf (fun b8 hr9 hf => ?_)
    refine xw_gr rfl (xkf (xsC hS (xIsC_mk (j := x1) (xs_R hS) hg7))) hr9 ?_
    refine xb_e hf (fun v10 h11 e12 hf => ?_)
    refine xg_e hf (fun hg13 hg13f => ?_)
    subst hg13
    replace hf := hg13f
    refine xw_V (v := some (.ref 300)) rfl rfl (xkf (xs_k hS rfl rfl : xm_k h5 300 = (13, 0))) (Nat.le_of_ble_eq_true rfl) (Nat.le_of_ble_eq_true rfl) (xm_Rn_le (Nat.le_of_ble_eq_true rfl) (t_J4_append_15ec4  hS e12).1) ?_
    have hS := (t_J4_append_15ec4  hS e12).2
    show xm_W _ _ _ 43 _ [.ref 300] _
    refine xw_G (pc' := 45) (st' := [.int (32 : Int32), .ref 300]) rfl rfl trivial ?_
    refine xb_e hf (fun v14 h15 e16 hf => ?_)
    refine xg_e hf (fun hg17 hg17f => ?_)
    subst hg17
    replace hf := hg17f
    refine xw_V (v := some (.ref 300)) rfl rfl (xkf (xs_k hS rfl rfl : xm_k h11 300 = (13, 0))) (Nat.le_of_ble_eq_true rfl) (Nat.le_of_ble_eq_true rfl) (xm_Rn_le (Nat.le_of_ble_eq_true rfl) (t_J4_append_cf468  hS e16).1) ?_
    have hS := (t_J4_append_cf468  hS e16).2
    show xm_W _ _ _ 48 _ [.ref 300] _
    refine xw_G (pc' := 49) (st' := [.ref 201, .ref 300]) rfl rfl trivial ?_
    refine xw_gr rfl (xkf (xs_k hS rfl rfl : xm_k h15 201 = (8, 0))) (xs_r hS rfl) ?_
    refine xw_G (pc' := 53) (st' := [.int x1, .ref 205, .ref 300]) rfl rfl trivial ?_
    refine xa_ld (t := 100) (τ := 0) (v := .int (xm_i h15 205 (Int32.toNatClampNeg x1))) rfl rfl (xkf (xs_k hS rfl rfl : xm_k h15 205 = (100, 8))) (xkn (xs_k hS rfl rfl : xm_k h15 205 = (100, 8))) hg7 rfl ?_
    refine xb_e hf (fun v18 h19 e20 hf => ?_)
    refine xw_S (v := some (.ref v18)) rfl (Nat.le_of_ble_eq_true rfl) (Nat.le_of_ble_eq_true rfl) (xm_Rn_le (Nat.le_of_ble_eq_true rfl) (t_X10_modeWord  hS e20).1) ?_
    have hS := (t_X10_modeWord  hS e20).2
    show xm_W _ _ _ 57 _ [.ref v18, .ref 300] _
    refine xb_e hf (fun v21 h22 e23 hf => ?_)
    refine xg_e hf (fun hg24 hg24f => ?_)
    subst hg24
    replace hf := hg24f
    refine xw_V (v := some (.ref 300)) rfl rfl (xkf (xs_k hS rfl rfl : xm_k h19 300 = (13, 0))) (Nat.le_of_ble_eq_true rfl) (Nat.le_of_ble_eq_true rfl) (xm_Rn_le (Nat.le_of_ble_eq_true rfl) (t_J4_append_15ec4  hS e23).1) ?_
    have hS := (t_J4_append_15ec4  hS e23).2
    show xm_W _ _ _ 60 _ [.ref 300] _
    refine xw_G (pc' := 61) (st' := []) rfl rfl rfl ?_
    refine xw_G (pc' := 62) (st' := [.ref 160]) rfl rfl trivial ?_
    refine xw_gr rfl (xkf (xs_k hS rfl rfl : xm_k h22 160 = (0, 0))) (xs_r hS rfl) ?_
    refine xw_G (pc' := 68) (st' := [.ref 57, .ref 300]) rfl rfl trivial ?_
    refine xb_e hf (fun v25 h26 e27 hf => ?_)
    refine xg_e hf (fun hg28 hg28f => ?_)
    subst hg28
    replace hf := hg28f
    refine xw_V (v := some (.ref 300)) rfl rfl (xkf (xs_k hS rfl rfl : xm_k h22 300 = (13, 0))) (Nat.le_of_ble_eq_true rfl) (Nat.le_of_ble_eq_true rfl) (xm_Rn_le (Nat.le_of_ble_eq_true rfl) (t_J4_append_15ec4  hS e27).1) ?_
    have hS := (t_J4_append_15ec4  hS e27).2
    show xm_W _ _ _ 71 _ [.ref 300] _
    refine xw_G (pc' := 72) (st' := [.ref 201, .ref 300]) rfl rfl trivial ?_
    refine xw_gr rfl (xkf (xs_k hS rfl rfl : xm_k h26 201 = (8, 0))) (xs_r hS rfl) ?_
    refine xw_G (pc' := 76) (st' := [.int x1, .ref 206, .ref 300]) rfl rfl trivial ?_
    refine xa_ld (t := 100) (τ := 0) (v := .int (xm_i h26 206 (Int32.toNatClampNeg x1))) rfl rfl (xkf (xs_k hS rfl rfl : xm_k h26 206 = (100, 8))) (xkn (xs_k hS rfl rfl : xm_k h26 206 = (100, 8))) hg7 rfl ?_
    refine xb_e hf (fun v29 h30 e31 hf => ?_)
    refine xg_e hf (fun hg32 hg32f => ?_)
    subst hg32
    replace hf := hg32f
    refine xw_V (v := some (.ref 300)) rfl rfl (xkf (xs_k hS rfl rfl : xm_k h26 300 = (13, 0))) (Nat.le_of_ble_eq_true rfl) (Nat.le_of_ble_eq_true rfl) (xm_Rn_le (Nat.le_of_ble_eq_true rfl) (t_J4_append_bf812  hS e31).1) ?_
    have hS := (t_J4_append_bf812  hS e31).2
    show xm_W _ _ _ 80 _ [.ref 300] _
    refine xw_G (pc' := 82) (st' := [.int (47 : Int32), .ref 300]) rfl rfl trivial ?_
    refine xb_e hf (fun v33 h34 e35 hf => ?_)
    refine xg_e hf (fun hg36 hg36f => ?_)
    subst hg36
    replace hf := hg36f
    refine xw_V (v := some (.ref 300)) rfl rfl (xkf (xs_k hS rfl rfl : xm_k h30 300 = (13, 0))) (Nat.le_of_ble_eq_true rfl) (Nat.le_of_ble_eq_true rfl) (xm_Rn_le (Nat.le_of_ble_eq_true rfl) (t_J4_append_cf468  hS e35).1) ?_
    have hS := (t_J4_append_cf468  hS e35).2
    show xm_W _ _ _ 85 _ [.ref 300] _
    refine xw_G (pc' := 86) (st' := [.ref 201, .ref 300]) rfl rfl trivial ?_
    refine xw_gr rfl (xkf (xs_k hS rfl rfl : xm_k h34 201 = (8, 0))) (xs_r hS rfl) ?_
    refine xw_G (pc' := 90) (st' := [.int x1, .ref 204, .ref 300]) rfl rfl trivial ?_
    refine xa_ld (t := 100) (τ := 0) (v := .int (xm_i h34 204 (Int32.toNatClampNeg x1))) rfl rfl (xkf (xs_k hS rfl rfl : xm_k h34 204 = (100, 8))) (xkn (xs_k hS rfl rfl : xm_k h34 204 = (100, 8))) hg7 rfl ?_
    refine xb_e hf (fun v37 h38 e39 hf => ?_)
    refine xg_e hf (fun hg40 hg40f => ?_)
    subst hg40
    replace hf := hg40f
    refine xw_V (v := some (.ref 300)) rfl rfl (xkf (xs_k hS rfl rfl : xm_k h34 300 = (13, 0))) (Nat.le_of_ble_eq_true rfl) (Nat.le_of_ble_eq_true rfl) (xm_Rn_le (Nat.le_of_ble_eq_true rfl) (t_J4_append_bf812  hS e39).1) ?_
    have hS := (t_J4_append_bf812  hS e39).2
    show xm_W _ _ _ 94 _ [.ref 300] _
    refine xw_G (pc' := 95) (st' := []) rfl rfl rfl ?_
    refine xw_G (pc' := 96) (st' := [.ref 160]) rfl rfl trivial ?_
    refine xw_gr rfl (xkf (xs_k hS rfl rfl : xm_k h38 160 = (0, 0))) (xs_r hS rfl) ?_
    refine xw_G (pc' := 102) (st' := [.ref 59, .ref 300]) rfl rfl trivial ?_
    refine xb_e hf (fun v41 h42 e43 hf => ?_)
    refine xg_e hf (fun hg44 hg44f => ?_)
    subst hg44
    replace hf := hg44f
    refine xw_V (v := some (.ref 300)) rfl rfl (xkf (xs_k hS rfl rfl : xm_k h38 300 = (13, 0))) (Nat.le_of_ble_eq_true rfl) (Nat.le_of_ble_eq_true rfl) (xm_Rn_le (Nat.le_of_ble_eq_true rfl) (t_J4_append_15ec4  hS e43).1) ?_
    have hS := (t_J4_append_15ec4  hS e43).2
    show xm_W _ _ _ 105 _ [.ref 300] _
    refine xw_G (pc' := 106) (st' := [.ref 160, .ref 300]) rfl rfl trivial ?_
    refine xw_gr rfl (xkf (xs_k hS rfl rfl : xm_k h42 160 = (0, 0))) (xs_r hS rfl) ?_
    refine xw_G (pc' := 110) (st' := [.int x1, .ref 182, .ref 300]) rfl rfl trivial ?_
    refine xb_e hf (fun v45 h46 e47 hf => ?_)
    refine xw_V (v := some (.int v45)) rfl rfl (xkf (xs_k hS rfl rfl : xm_k h42 182 = (3, 0))) (Nat.le_of_ble_eq_true rfl) (Nat.le_of_ble_eq_true rfl) (xm_Rn_le (Nat.le_of_ble_eq_true rfl) (t_X2_pacedBid  hS e47).1) ?_
    have hS := (t_X2_pacedBid  hS e47).2
    show xm_W _ _ _ 113 _ [.int v45, .ref 300] _
    refine xb_e hf (fun v48 h49 e50 hf => ?_)
    refine xg_e hf (fun hg51 hg51f => ?_)
    subst hg51
    replace hf := hg51f
    refine xw_V (v := some (.ref 300)) rfl rfl (xkf (xs_k hS rfl rfl : xm_k h46 300 = (13, 0))) (Nat.le_of_ble_eq_true rfl) (Nat.le_of_ble_eq_true rfl) (xm_Rn_le (Nat.le_of_ble_eq_true rfl) (t_J4_append_bf812  hS e50).1) ?_
    have hS := (t_J4_append_bf812  hS e50).2
    show xm_W _ _ _ 116 _ [.ref 300] _
    refine xw_G (pc' := 117) (st' := []) rfl rfl rfl ?_
    refine xw_G (pc' := 118) (st' := [.ref 201]) rfl rfl trivial ?_
    refine xw_gr rfl (xkf (xs_k hS rfl rfl : xm_k h49 201 = (8, 0))) (xs_r hS rfl) ?_
    refine xw_G (pc' := 122) (st' := [.int x1, .ref 208]) rfl rfl trivial ?_
    refine xa_ld (t := 101) (τ := 0) (v := .int (xm_i h49 208 (Int32.toNatClampNeg x1))) rfl rfl (xkf (xs_k hS rfl rfl : xm_k h49 208 = (101, 8))) (xkn (xs_k hS rfl rfl : xm_k h49 208 = (101, 8))) hg7 rfl ?_
    refine xj_if_eq rfl hf (fun hc52 hf => ?_) (fun hc52 hf => ?_)
    · refine xw_G (pc' := 138) (st' := [.ref 160]) rfl rfl trivial ?_
      refine xw_gr rfl (xkf (xs_k hS rfl rfl : xm_k h49 160 = (0, 0))) (xs_r hS rfl) ?_
      refine xw_gr rfl (xkf (xs_k hS rfl rfl : xm_k h49 182 = (3, 0))) (xs_r hS rfl) ?_
      refine xw_G (pc' := 145) (st' := [.int x1, .ref 209]) rfl rfl trivial ?_
      refine xw_G (pc' := 146) (st' := [.ref 201, .int x1, .ref 209]) rfl rfl trivial ?_
      refine xw_G (pc' := 149) (st' := [.int (xm_i h49 201 2), .int x1, .ref 209]) rfl rfl (xkf (xs_k hS rfl rfl : xm_k h49 201 = (8, 0))) ?_
      refine xb_e hf (fun v53 h54 e55 hf => ?_)
      refine xw_V (v := some (.int v53)) rfl rfl (xkf (xs_k hS rfl rfl : xm_k h49 209 = (5, 0))) (Nat.le_of_ble_eq_true rfl) (Nat.le_of_ble_eq_true rfl) (xm_Rn_le (Nat.le_of_ble_eq_true rfl) (t_X4_usersReached  hS e55).1) ?_
      have hS := (t_X4_usersReached  hS e55).2
      show xm_W _ _ _ 152 _ [.int v53] _
      refine xw_G (pc' := 153) (ls' := [some (.ref 160), some (.int x1), some (.ref 201), some (.int v53)]) (st' := []) rfl rfl (Nat.le_of_ble_eq_true rfl) ?_
      refine xw_G (pc' := 154) (st' := [.int v53]) rfl rfl trivial ?_
      refine xj_if_le rfl hf (fun hc56 hf => ?_) (fun hc56 hf => ?_)
      · refine xw_G (pc' := 158) (st' := [.ref 160]) rfl rfl trivial ?_
        refine xw_gr rfl (xkf (xs_k hS rfl rfl : xm_k h54 160 = (0, 0))) (xs_r hS rfl) ?_
        refine xw_G (pc' := 164) (st' := [.ref 63, .ref 300]) rfl rfl trivial ?_
        refine xb_e hf (fun v57 h58 e59 hf => ?_)
        refine xg_e hf (fun hg60 hg60f => ?_)
        subst hg60
        replace hf := hg60f
        refine xw_V (v := some (.ref 300)) rfl rfl (xkf (xs_k hS rfl rfl : xm_k h54 300 = (13, 0))) (Nat.le_of_ble_eq_true rfl) (Nat.le_of_ble_eq_true rfl) (xm_Rn_le (Nat.le_of_ble_eq_true rfl) (t_J4_append_15ec4  hS e59).1) ?_
        have hS := (t_J4_append_15ec4  hS e59).2
        show xm_W _ _ _ 167 _ [.ref 300] _
        refine xw_G (pc' := 168) (st' := [.int v53, .ref 300]) rfl rfl trivial ?_
        refine xb_e hf (fun v61 h62 e63 hf => ?_)
        refine xg_e hf (fun hg64 hg64f => ?_)
        subst hg64
        replace hf := hg64f
        refine xw_V (v := some (.ref 300)) rfl rfl (xkf (xs_k hS rfl rfl : xm_k h58 300 = (13, 0))) (Nat.le_of_ble_eq_true rfl) (Nat.le_of_ble_eq_true rfl) (xm_Rn_le (Nat.le_of_ble_eq_true rfl) (t_J4_append_bf812  hS e63).1) ?_
        have hS := (t_J4_append_bf812  hS e63).2
        show xm_W _ _ _ 171 _ [.ref 300] _
        refine xw_G (pc' := 172) (st' := []) rfl rfl rfl ?_
        refine xw_G (pc' := 173) (st' := [.ref 160]) rfl rfl trivial ?_
        refine xw_gr rfl (xkf (xs_k hS rfl rfl : xm_k h62 160 = (0, 0))) (xs_r hS rfl) ?_
        refine xb_e hf (fun v65 h66 e67 hf => ?_)
        refine xw_V (v := some (.int v65)) rfl rfl (xkf (xs_k hS rfl rfl : xm_k h62 300 = (13, 0))) (Nat.le_of_ble_eq_true rfl) (Nat.le_of_ble_eq_true rfl) (xm_Rn_le (Nat.le_of_ble_eq_true rfl) (t_J4_length_8abf5  hS e67).1) ?_
        have hS := (t_J4_length_8abf5  hS e67).2
        show xm_W _ _ _ 179 _ [.int v65] _
        exact xr_i (inj := xti) rfl rfl rfl rfl hf hQ hS
      · refine xw_G (pc' := 173) (st' := [.ref 160]) rfl rfl trivial ?_
        refine xw_gr rfl (xkf (xs_k hS rfl rfl : xm_k h54 160 = (0, 0))) (xs_r hS rfl) ?_
        refine xb_e hf (fun v68 h69 e70 hf => ?_)
        refine xw_V (v := some (.int v68)) rfl rfl (xkf (xs_k hS rfl rfl : xm_k h54 300 = (13, 0))) (Nat.le_of_ble_eq_true rfl) (Nat.le_of_ble_eq_true rfl) (xm_Rn_le (Nat.le_of_ble_eq_true rfl) (t_J4_length_8abf5  hS e70).1) ?_
        have hS := (t_J4_length_8abf5  hS e70).2
        show xm_W _ _ _ 179 _ [.int v68] _
        exact xr_i (inj := xti) rfl rfl rfl rfl hf hQ hS
    · refine xw_G (pc' := 127) (st' := [.ref 160]) rfl rfl trivial ?_
      refine xw_gr rfl (xkf (xs_k hS rfl rfl : xm_k h49 160 = (0, 0))) (xs_r hS rfl) ?_
      refine xw_G (pc' := 133) (st' := [.ref 61, .ref 300]) rfl rfl trivial ?_
      refine xb_e hf (fun v71 h72 e73 hf => ?_)
      refine xg_e hf (fun hg74 hg74f => ?_)
      subst hg74
      replace hf := hg74f
      refine xw_V (v := some (.ref 300)) rfl rfl (xkf (xs_k hS rfl rfl : xm_k h49 300 = (13, 0))) (Nat.le_of_ble_eq_true rfl) (Nat.le_of_ble_eq_true rfl) (xm_Rn_le (Nat.le_of_ble_eq_true rfl) (t_J4_append_15ec4  hS e73).1) ?_
      have hS := (t_J4_append_15ec4  hS e73).2
      show xm_W _ _ _ 136 _ [.ref 300] _
      refine xw_G (pc' := 137) (st' := []) rfl rfl rfl ?_
      refine xw_G (pc' := 138) (st' := [.ref 160]) rfl rfl trivial ?_
      refine xw_gr rfl (xkf (xs_k hS rfl rfl : xm_k h72 160 = (0, 0))) (xs_r hS rfl) ?_
      refine xw_gr rfl (xkf (xs_k hS rfl rfl : xm_k h72 182 = (3, 0))) (xs_r hS rfl) ?_
      refine xw_G (pc' := 145) (st' := [.int x1, .ref 209]) rfl rfl trivial ?_
      refine xw_G (pc' := 146) (st' := [.ref 201, .int x1, .ref 209]) rfl rfl trivial ?_
      refine xw_G (pc' := 149) (st' := [.int (xm_i h72 201 2), .int x1, .ref 209]) rfl rfl (xkf (xs_k hS rfl rfl : xm_k h72 201 = (8, 0))) ?_
      refine xb_e hf (fun v75 h76 e77 hf => ?_)
      refine xw_V (v := some (.int v75)) rfl rfl (xkf (xs_k hS rfl rfl : xm_k h72 209 = (5, 0))) (Nat.le_of_ble_eq_true rfl) (Nat.le_of_ble_eq_true rfl) (xm_Rn_le (Nat.le_of_ble_eq_true rfl) (t_X4_usersReached  hS e77).1) ?_
      have hS := (t_X4_usersReached  hS e77).2
      show xm_W _ _ _ 152 _ [.int v75] _
      refine xw_G (pc' := 153) (ls' := [some (.ref 160), some (.int x1), some (.ref 201), some (.int v75)]) (st' := []) rfl rfl (Nat.le_of_ble_eq_true rfl) ?_
      refine xw_G (pc' := 154) (st' := [.int v75]) rfl rfl trivial ?_
      refine xj_if_le rfl hf (fun hc78 hf => ?_) (fun hc78 hf => ?_)
      · refine xw_G (pc' := 158) (st' := [.ref 160]) rfl rfl trivial ?_
        refine xw_gr rfl (xkf (xs_k hS rfl rfl : xm_k h76 160 = (0, 0))) (xs_r hS rfl) ?_
        refine xw_G (pc' := 164) (st' := [.ref 63, .ref 300]) rfl rfl trivial ?_
        refine xb_e hf (fun v79 h80 e81 hf => ?_)
        refine xg_e hf (fun hg82 hg82f => ?_)
        subst hg82
        replace hf := hg82f
        refine xw_V (v := some (.ref 300)) rfl rfl (xkf (xs_k hS rfl rfl : xm_k h76 300 = (13, 0))) (Nat.le_of_ble_eq_true rfl) (Nat.le_of_ble_eq_true rfl) (xm_Rn_le (Nat.le_of_ble_eq_true rfl) (t_J4_append_15ec4  hS e81).1) ?_
        have hS := (t_J4_append_15ec4  hS e81).2
        show xm_W _ _ _ 167 _ [.ref 300] _
        refine xw_G (pc' := 168) (st' := [.int v75, .ref 300]) rfl rfl trivial ?_
        refine xb_e hf (fun v83 h84 e85 hf => ?_)
        refine xg_e hf (fun hg86 hg86f => ?_)
        subst hg86
        replace hf := hg86f
        refine xw_V (v := some (.ref 300)) rfl rfl (xkf (xs_k hS rfl rfl : xm_k h80 300 = (13, 0))) (Nat.le_of_ble_eq_true rfl) (Nat.le_of_ble_eq_true rfl) (xm_Rn_le (Nat.le_of_ble_eq_true rfl) (t_J4_append_bf812  hS e85).1) ?_
        have hS := (t_J4_append_bf812  hS e85).2
        show xm_W _ _ _ 171 _ [.ref 300] _
        refine xw_G (pc' := 172) (st' := []) rfl rfl rfl ?_
        refine xw_G (pc' := 173) (st' := [.ref 160]) rfl rfl trivial ?_
        refine xw_gr rfl (xkf (xs_k hS rfl rfl : xm_k h84 160 = (0, 0))) (xs_r hS rfl) ?_
        refine xb_e hf (fun v87 h88 e89 hf => ?_)
        refine xw_V (v := some (.int v87)) rfl rfl (xkf (xs_k hS rfl rfl : xm_k h84 300 = (13, 0))) (Nat.le_of_ble_eq_true rfl) (Nat.le_of_ble_eq_true rfl) (xm_Rn_le (Nat.le_of_ble_eq_true rfl) (t_J4_length_8abf5  hS e89).1) ?_
        have hS := (t_J4_length_8abf5  hS e89).2
        show xm_W _ _ _ 179 _ [.int v87] _
        exact xr_i (inj := xti) rfl rfl rfl rfl hf hQ hS
      · refine xw_G (pc' := 173) (st' := [.ref 160]) rfl rfl trivial ?_
        refine xw_gr rfl (xkf (xs_k hS rfl rfl : xm_k h76 160 = (0, 0))) (xs_r hS rfl) ?_
        refine xb_e hf (fun v90 h91 e92 hf => ?_)
        refine xw_V (v := some (.int v90)) rfl rfl (xkf (xs_k hS rfl rfl : xm_k h76 300 = (13, 0))) (Nat.le_of_ble_eq_true rfl) (Nat.le_of_ble_eq_true rfl) (xm_Rn_le (Nat.le_of_ble_eq_true rfl) (t_J4_length_8abf5  hS e92).1) ?_
        have hS := (t_J4_length_8abf5  hS e92).2
        show xm_W _ _ _ 179 _ [.int v90] _
        exact xr_i (inj := xti) rfl rfl rfl rfl hf hQ hS
  · refine xw_VX (x := q93) rfl rfl (xkf (xs_k hS rfl rfl : xm_k h 160 = (0, 0))) (Nat.le_of_ble_eq_true rfl) (Nat.le_of_ble_eq_true rfl) (xm_Rn_le (Nat.le_of_ble_eq_true rfl) (t_X10_requireCampaign  hS e3).1) rfl ?_
    have hS := (t_X10_requireCampaign  hS e3).2
    exact xr_x (inj := xti) rfl hf hQ hS
def f_L_write (N : Nat) (ρ : Nat) (x1 : Int32) (h : xm_H) : Option (Int32 × xm_H) := (xe (f_X10_write N ρ x1 h) (fun v1 h2 => (xl (xm_sl h2 316 0 (Int32.toInt64 v1)) fun h4 => (some ((0 : Int32), h4)))) (fun q6 h7 => (if (q6).1 = 14 then (some ((1 : Int32), h7)) else none)))
theorem t_L_write {N : Nat} {ρ : Nat} {δ : Nat} {x1 : Int32} {h : xm_H} {w : Int32 × xm_H}  (hS : xS ρ δ h) (hf : f_L_write N ρ x1 h = some w) : xm_Rn xX 7 360 [.ref 160, .int x1, .ref 316] h (xji w.1) w.2 ∧ xS ρ δ w.2 := by
  refine xt_mk (φ := fun h => xS ρ δ h) (M := xM_L_write) (ls := [some (.ref 160), some (.int x1), some (.ref 316), none]) rfl (Nat.le_of_ble_eq_true rfl) rfl (fun Q hQ => ?_)
  unfold f_L_write at hf
  refine xw_G (pc' := 1) (st' := [.ref 316]) rfl rfl trivial ?_
  refine xw_G (pc' := 2) (st' := [.int (0 : Int32), .ref 316]) rfl rfl trivial ?_
  refine xw_G (pc' := 3) (st' := [.ref 160, .int (0 : Int32), .ref 316]) rfl rfl trivial ?_
  refine xw_G (pc' := 4) (st' := [.int x1, .ref 160, .int (0 : Int32), .ref 316]) rfl rfl trivial ?_
  refine xe_e hf (fun v1 h2 e3 hf => ?_) (fun q6 h7 e3 hf => ?_)
  · refine xw_V (v := some (.int v1)) rfl rfl (xkf (xs_k hS rfl rfl : xm_k h 160 = (0, 0))) (Nat.le_of_ble_eq_true rfl) (Nat.le_of_ble_eq_true rfl) (xm_Rn_le (Nat.le_of_ble_eq_true rfl) (t_X10_write  hS e3).1) ?_
    have hS := (t_X10_write  hS e3).2
    show xm_W _ _ _ 7 _ [.int v1, .int (0 : Int32), .ref 316] _
    refine xw_G (pc' := 8) (st' := [.long (Int32.toInt64 v1), .int (0 : Int32), .ref 316]) rfl rfl trivial ?_
    refine xa_l rfl (xkf (xs_k hS rfl rfl : xm_k h2 316 = (104, 1))) (xkn (xs_k hS rfl rfl : xm_k h2 316 = (104, 1))) (by decide : xin (0 : Int32) 1) (Nat.le_of_ble_eq_true rfl) hf (fun h4 e5 hf => ?_)
    have hS := xS_sl hS e5
    refine xw_G (pc' := 15) (st' := []) rfl rfl trivial ?_
    refine xw_G (pc' := 16) (st' := [.int (0 : Int32)]) rfl rfl trivial ?_
    exact xr_i (inj := xji) rfl rfl rfl rfl hf hQ hS
  · by_cases hc8 : (q6).1 = 14
    · rw [if_pos hc8] at hf
      refine xw_VH (x := q6) (p := 12) rfl rfl (xkf (xs_k hS rfl rfl : xm_k h 160 = (0, 0))) (Nat.le_of_ble_eq_true rfl) (Nat.le_of_ble_eq_true rfl) (xm_Rn_le (Nat.le_of_ble_eq_true rfl) (t_X10_write  hS e3).1) (by rw [hc8]; rfl) ?_
      have hS := (t_X10_write  hS e3).2
      refine xw_G (pc' := 13) (ls' := [some (.ref 160), some (.int x1), some (.ref 316), some (.ref ((q6).2))]) (st' := []) rfl rfl (Nat.le_of_ble_eq_true rfl) ?_
      refine xw_G (pc' := 14) (st' := [.int (1 : Int32)]) rfl rfl trivial ?_
      exact xr_i (inj := xji) rfl rfl rfl rfl hf hQ hS
    · rw [if_neg hc8] at hf
      exact (xn_e hf).elim
def f_X11_put (x1 : Int32) (h : xm_H) : Option (Unit × xm_H) := (if xin (xm_i h 302 30) 120 then (xl (xm_si h 315 (Int32.toNatClampNeg (xm_i h 302 30)) x1) fun h2 => (xl (xm_si h2 302 30 ((xm_i h2 302 30) + (1 : Int32))) fun h4 => (some ((), h4)))) else none)
theorem t_X11_put {ρ : Nat} {δ : Nat} {x1 : Int32} {h : xm_H} {w : Unit × xm_H}  (hS : xS ρ δ h) (hf : f_X11_put x1 h = some w) : xm_Rn xX 1 244 [.ref 302, .int x1] h (xjv w.1) w.2 ∧ xS ρ δ w.2 := by
  refine xt_mk (φ := fun h => xS ρ δ h) (M := xM_X11_put) (ls := [some (.ref 302), some (.int x1)]) rfl (Nat.le_of_ble_eq_true rfl) rfl (fun Q hQ => ?_)
  unfold f_X11_put at hf
  refine xw_G (pc' := 1) (st' := [.ref 302]) rfl rfl trivial ?_
  refine xw_gr rfl (xkf (xs_k hS rfl rfl : xm_k h 302 = (11, 0))) (xs_r hS rfl) ?_
  refine xw_G (pc' := 5) (st' := [.ref 302, .ref 315]) rfl rfl trivial ?_
  refine xw_G (pc' := 8) (st' := [.int (xm_i h 302 30), .ref 315]) rfl rfl (xkf (xs_k hS rfl rfl : xm_k h 302 = (11, 0))) ?_
  refine xw_G (pc' := 9) (st' := [.int x1, .int (xm_i h 302 30), .ref 315]) rfl rfl trivial ?_
  refine xg_e hf (fun hg1 hf => ?_)
  refine xa_i rfl (xkf (xs_k hS rfl rfl : xm_k h 315 = (100, 120))) (xkn (xs_k hS rfl rfl : xm_k h 315 = (100, 120))) hg1 (Nat.le_of_ble_eq_true rfl) hf (fun h2 e3 hf => ?_)
  have hS := xS_si hS e3
  refine xw_G (pc' := 11) (st' := [.ref 302]) rfl rfl trivial ?_
  refine xw_G (pc' := 12) (st' := [.ref 302, .ref 302]) rfl rfl rfl ?_
  refine xw_G (pc' := 15) (st' := [.int (xm_i h2 302 30), .ref 302]) rfl rfl (xkf (xs_k hS rfl rfl : xm_k h2 302 = (11, 0))) ?_
  refine xw_G (pc' := 16) (st' := [.int (1 : Int32), .int (xm_i h2 302 30), .ref 302]) rfl rfl trivial ?_
  refine xw_G (pc' := 17) (st' := [.int ((xm_i h2 302 30) + (1 : Int32)), .ref 302]) rfl rfl trivial ?_
  refine xp_i rfl (xkf (xs_k hS rfl rfl : xm_k h2 302 = (11, 0))) (Nat.le_of_ble_eq_true rfl) hf (fun h4 e5 hf => ?_)
  have hS := xS_si hS e5
  exact xr_v (inj := xjv) rfl rfl hf hQ hS
def f_X11_putName_2B (N : Nat) (c1 : Int64) (k21 : Int64 → xm_H → Option (Unit × xm_H)) (rec : Int64 → xm_H → Option (Unit × xm_H)) (c3 : Int64) (h : xm_H) : Option (Unit × xm_H) := (if ¬ c3 = 0 then (if 0 < (lg_cmp (c1 / c3) (31 : Int64)) then (rec ((32 : Int64) * c3) h) else (k21 c3 h)) else none)
def f_X11_putName_2 (N : Nat) (c1 : Int64) (k21 : Int64 → xm_H → Option (Unit × xm_H)) : Nat → Int64 → xm_H → Option (Unit × xm_H)
  | 0 => fun _ _ => none
  | n + 1 => fun c3 h => f_X11_putName_2B N c1 k21 (f_X11_putName_2 N c1 k21 n) c3 h
def f_X11_putName_21B (N : Nat) (c1 : Int64) (rec : Int64 → xm_H → Option (Unit × xm_H)) (c3 : Int64) (h : xm_H) : Option (Unit × xm_H) := (if 0 < (lg_cmp c3 (0 : Int64)) then (if ¬ c3 = 0 then (xb (f_X11_put ((Int64.toInt32 ((c1 / c3) - (c1 / c3) / (32 : Int64) * (32 : Int64))) + (96 : Int32)) h) fun v3 h4 => (rec (c3 / (32 : Int64)) h4)) else none) else (some ((), h)))
def f_X11_putName_21 (N : Nat) (c1 : Int64) : Nat → Int64 → xm_H → Option (Unit × xm_H)
  | 0 => fun _ _ => none
  | n + 1 => fun c3 h => f_X11_putName_21B N c1 (f_X11_putName_21 N c1 n) c3 h
def f_X11_putName (N : Nat) (x1 : Int64) (h : xm_H) : Option (Unit × xm_H) := (f_X11_putName_2 N x1 (fun (e1 : Int64) (h2 : xm_H) => (f_X11_putName_21 N x1 N e1 h2)) N (1 : Int64) h)
theorem tl_X11_putName_2 {ρ : Nat} {δ : Nat} {N : Nat} {c1 : Int64} {k21 : Int64 → xm_H → Option (Unit × xm_H)} {Q : xm_O → xm_H → Prop} {w : Unit × xm_H}  (hQ : xS ρ δ w.2 → Q (xjv w.1) w.2) (hk21 : ∀ (a0 : Int64) (h : xm_H), xS ρ δ h → k21 a0 h = some w → xm_W (xm_Rn xX 1) xM_X11_putName Q 21 [some (.ref 302), some (.long c1), none, some (.long a0), none] [] h) : ∀ (n : Nat) (c3 : Int64) (h : xm_H), xS ρ δ h → f_X11_putName_2 N c1 k21 n c3 h = some w → xm_W (xm_Rn xX 1) xM_X11_putName Q 2 [some (.ref 302), some (.long c1), none, some (.long c3), none] [] h := by
  intro n
  induction n with
  | zero =>
    intro c3 h hS hf
    exact (xn_e hf).elim
  | succ n ih =>
    intro c3 h hS hf
    replace hf : f_X11_putName_2B N c1 k21 (f_X11_putName_2 N c1 k21 n) c3 h = some w := hf
    unfold f_X11_putName_2B at hf
    refine xw_K (pc' := 3) (ls' := [some (.ref 302), some (.long c1), none, some (.long c3), none]) (st' := [.long c1]) rfl rfl trivial ?_
    refine xw_G (pc' := 4) (st' := [.long c3, .long c1]) rfl rfl trivial ?_
    refine xg_e hf (fun hg1 hf => ?_)
    refine xw_G (pc' := 5) (st' := [.long (c1 / c3)]) rfl rfl hg1 ?_
    refine xw_G (pc' := 8) (st' := [.long (31 : Int64), .long (c1 / c3)]) rfl rfl trivial ?_
    refine xw_G (pc' := 9) (st' := [.int (lg_cmp (c1 / c3) (31 : Int64))]) rfl rfl trivial ?_
    refine xj_if_le rfl hf (fun hc2 hf => ?_) (fun hc2 hf => ?_)
    · refine xw_G (pc' := 15) (st' := [.long (32 : Int64)]) rfl rfl trivial ?_
      refine xw_G (pc' := 16) (st' := [.long c3, .long (32 : Int64)]) rfl rfl trivial ?_
      refine xw_G (pc' := 17) (st' := [.long ((32 : Int64) * c3)]) rfl rfl trivial ?_
      refine xw_G (pc' := 18) (ls' := [some (.ref 302), some (.long c1), none, some (.long ((32 : Int64) * c3)), none]) (st' := []) rfl rfl (Nat.le_of_ble_eq_true rfl) ?_
      refine xw_G (pc' := 2) (st' := []) rfl rfl trivial ?_
      refine xw_M rfl rfl ?_
      exact ih _ _ hS hf
    · refine xw_M rfl rfl ?_
      exact hk21 _ _ hS hf
theorem tl_X11_putName_21 {ρ : Nat} {δ : Nat} {N : Nat} {c1 : Int64} {Q : xm_O → xm_H → Prop} {w : Unit × xm_H}  (hQ : xS ρ δ w.2 → Q (xjv w.1) w.2)  : ∀ (n : Nat) (c3 : Int64) (h : xm_H), xS ρ δ h → f_X11_putName_21 N c1 n c3 h = some w → xm_W (xm_Rn xX 1) xM_X11_putName Q 21 [some (.ref 302), some (.long c1), none, some (.long c3), none] [] h := by
  intro n
  induction n with
  | zero =>
    intro c3 h hS hf
    exact (xn_e hf).elim
  | succ n ih =>
    intro c3 h hS hf
    replace hf : f_X11_putName_21B N c1 (f_X11_putName_21 N c1 n) c3 h = some w := hf
    unfold f_X11_putName_21B at hf
    refine xw_K (pc' := 22) (ls' := [some (.ref 302), some (.long c1), none, some (.long c3), none]) (st' := [.long c3]) rfl rfl trivial ?_
    refine xw_G (pc' := 23) (st' := [.long (0 : Int64), .long c3]) rfl rfl trivial ?_
    refine xw_G (pc' := 24) (st' := [.int (lg_cmp c3 (0 : Int64))]) rfl rfl trivial ?_
    refine xj_if_le rfl hf (fun hc1 hf => ?_) (fun hc1 hf => ?_)
    · refine xw_G (pc' := 28) (st' := [.ref 302]) rfl rfl trivial ?_
      refine xw_G (pc' := 29) (st' := [.long c1, .ref 302]) rfl rfl trivial ?_
      refine xw_G (pc' := 30) (st' := [.long c3, .long c1, .ref 302]) rfl rfl trivial ?_
      refine xg_e hf (fun hg2 hf => ?_)
      refine xw_G (pc' := 31) (st' := [.long (c1 / c3), .ref 302]) rfl rfl hg2 ?_
      refine xw_G (pc' := 34) (st' := [.long (32 : Int64), .long (c1 / c3), .ref 302]) rfl rfl trivial ?_
      refine xw_G (pc' := 35) (st' := [.long ((c1 / c3) - (c1 / c3) / (32 : Int64) * (32 : Int64)), .ref 302]) rfl rfl (by decide) ?_
      refine xw_G (pc' := 36) (st' := [.int (Int64.toInt32 ((c1 / c3) - (c1 / c3) / (32 : Int64) * (32 : Int64))), .ref 302]) rfl rfl trivial ?_
      refine xw_G (pc' := 38) (st' := [.int (96 : Int32), .int (Int64.toInt32 ((c1 / c3) - (c1 / c3) / (32 : Int64) * (32 : Int64))), .ref 302]) rfl rfl trivial ?_
      refine xw_G (pc' := 39) (st' := [.int ((Int64.toInt32 ((c1 / c3) - (c1 / c3) / (32 : Int64) * (32 : Int64))) + (96 : Int32)), .ref 302]) rfl rfl trivial ?_
      refine xb_e hf (fun v3 h4 e5 hf => ?_)
      refine xw_V (v := none) rfl rfl (xkf (xs_k hS rfl rfl : xm_k h 302 = (11, 0))) (Nat.le_of_ble_eq_true rfl) (Nat.le_of_ble_eq_true rfl) (xm_Rn_le (Nat.le_of_ble_eq_true rfl) (t_X11_put  hS e5).1) ?_
      have hS := (t_X11_put  hS e5).2
      show xm_W _ _ _ 42 _ [] _
      refine xw_G (pc' := 43) (st' := [.long c3]) rfl rfl trivial ?_
      refine xw_G (pc' := 46) (st' := [.long (32 : Int64), .long c3]) rfl rfl trivial ?_
      refine xw_G (pc' := 47) (st' := [.long (c3 / (32 : Int64))]) rfl rfl (by decide) ?_
      refine xw_G (pc' := 48) (ls' := [some (.ref 302), some (.long c1), none, some (.long (c3 / (32 : Int64))), none]) (st' := []) rfl rfl (Nat.le_of_ble_eq_true rfl) ?_
      refine xw_G (pc' := 21) (st' := []) rfl rfl trivial ?_
      refine xw_M rfl rfl ?_
      exact ih _ _ hS hf
    · exact xr_v (inj := xjv) rfl rfl hf hQ hS
theorem t_X11_putName {N : Nat} {ρ : Nat} {δ : Nat} {x1 : Int64} {h : xm_H} {w : Unit × xm_H}  (hS : xS ρ δ h) (hf : f_X11_putName N x1 h = some w) : xm_Rn xX 2 247 [.ref 302, .long x1] h (xjv w.1) w.2 ∧ xS ρ δ w.2 := by
  refine xt_mk (φ := fun h => xS ρ δ h) (M := xM_X11_putName) (ls := [some (.ref 302), some (.long x1), none, none, none]) rfl (Nat.le_of_ble_eq_true rfl) rfl (fun Q hQ => ?_)
  unfold f_X11_putName at hf
  refine xw_G (pc' := 1) (st' := [.long (1 : Int64)]) rfl rfl trivial ?_
  refine xw_G (pc' := 2) (ls' := [some (.ref 302), some (.long x1), none, some (.long (1 : Int64)), none]) (st' := []) rfl rfl (Nat.le_of_ble_eq_true rfl) ?_
  refine xw_M rfl rfl ?_
  refine tl_X11_putName_2  hQ (fun e1 h2 hS hf => ?_) _ _ _ hS hf
  refine xw_M rfl rfl ?_
  refine tl_X11_putName_21  hQ  _ _ _ hS hf
def f_X11_modeWord (x0 : Int32) (h : xm_H) : Option (Nat × xm_H) := (if x0 = 0 then (some (81, h)) else (if x0 = (1 : Int32) then (some (83, h)) else (some (85, h))))
theorem t_X11_modeWord {ρ : Nat} {δ : Nat} {x0 : Int32} {h : xm_H} {w : Nat × xm_H}  (hS : xS ρ δ h) (hf : f_X11_modeWord x0 h = some w) : xm_Rn xX 1 248 [.int x0] h (xjr w.1) w.2 ∧ xS ρ δ w.2 := by
  refine xt_mk (φ := fun h => xS ρ δ h) (M := xM_X11_modeWord) (ls := [some (.int x0)]) rfl (Nat.le_of_ble_eq_true rfl) rfl (fun Q hQ => ?_)
  unfold f_X11_modeWord at hf
  refine xw_G (pc' := 1) (st' := [.int x0]) rfl rfl trivial ?_
  refine xj_if_ne rfl hf (fun hc1 hf => ?_) (fun hc1 hf => ?_)
  · refine xw_G (pc' := 6) (st' := [.ref 81]) rfl rfl trivial ?_
    refine xw_G (pc' := 21) (st' := [.ref 81]) rfl rfl trivial ?_
    exact xr_r (inj := xjr) rfl rfl hf hQ hS
  · refine xw_G (pc' := 10) (st' := [.int x0]) rfl rfl trivial ?_
    refine xw_G (pc' := 11) (st' := [.int (1 : Int32), .int x0]) rfl rfl trivial ?_
    refine xj_ic_ne rfl hf (fun hc2 hf => ?_) (fun hc2 hf => ?_)
    · refine xw_G (pc' := 16) (st' := [.ref 83]) rfl rfl trivial ?_
      refine xw_G (pc' := 21) (st' := [.ref 83]) rfl rfl trivial ?_
      exact xr_r (inj := xjr) rfl rfl hf hQ hS
    · refine xw_G (pc' := 21) (st' := [.ref 85]) rfl rfl trivial ?_
      exact xr_r (inj := xjr) rfl rfl hf hQ hS
def f_X11_putText_2B (N : Nat) (c1 : Nat) (rec : Int32 → xm_H → Option (Unit × xm_H)) (c2 : Int32) (h : xm_H) : Option (Unit × xm_H) := (if (xm_k h c1).1 = 12 then (xb (f_J0_length_8abf5 c1 h) fun v1 h2 => (if c2 < v1 then (if (xm_k h2 c1).1 = 12 then (xb (f_J0_charAt_5068e c1 c2 h2) fun v6 h7 => (xb (f_X11_put v6 h7) fun v10 h11 => (rec (c2 + (1 : Int32)) h11))) else none) else (some ((), h2)))) else none)
def f_X11_putText_2 (N : Nat) (c1 : Nat) : Nat → Int32 → xm_H → Option (Unit × xm_H)
  | 0 => fun _ _ => none
  | n + 1 => fun c2 h => f_X11_putText_2B N c1 (f_X11_putText_2 N c1 n) c2 h
def f_X11_putText (N : Nat) (x1 : Nat) (h : xm_H) : Option (Unit × xm_H) := (f_X11_putText_2 N x1 N (0 : Int32) h)
theorem tl_X11_putText_2 {ρ : Nat} {δ : Nat} {N : Nat} {c1 : Nat} {Q : xm_O → xm_H → Prop} {w : Unit × xm_H}  (hQ : xS ρ δ w.2 → Q (xjv w.1) w.2)  : ∀ (n : Nat) (c2 : Int32) (h : xm_H), xS ρ δ h → f_X11_putText_2 N c1 n c2 h = some w → xm_W (xm_Rn xX 4) xM_X11_putText Q 2 [some (.ref 302), some (.ref c1), some (.int c2)] [] h := by
  intro n
  induction n with
  | zero =>
    intro c2 h hS hf
    exact (xn_e hf).elim
  | succ n ih =>
    intro c2 h hS hf
    replace hf : f_X11_putText_2B N c1 (f_X11_putText_2 N c1 n) c2 h = some w := hf
    unfold f_X11_putText_2B at hf
    refine xw_K (pc' := 3) (ls' := [some (.ref 302), some (.ref c1), some (.int c2)]) (st' := [.int c2]) rfl rfl trivial ?_
    refine xw_G (pc' := 4) (st' := [.ref c1, .int c2]) rfl rfl trivial ?_
    refine xg_e hf (fun hg4 hf => ?_)
    refine xb_e hf (fun v1 h2 e3 hf => ?_)
    refine xw_V (v := some (.int v1)) rfl rfl hg4 (Nat.le_of_ble_eq_true rfl) (Nat.le_of_ble_eq_true rfl) (xm_Rn_le (Nat.le_of_ble_eq_true rfl) (t_J0_length_8abf5  hS e3).1) ?_
    have hS := (t_J0_length_8abf5  hS e3).2
    show xm_W _ _ _ 7 _ [.int v1, .int c2] _
    refine xj_ic_ge rfl hf (fun hc5 hf => ?_) (fun hc5 hf => ?_)
    · refine xw_G (pc' := 11) (st' := [.ref 302]) rfl rfl trivial ?_
      refine xw_G (pc' := 12) (st' := [.ref c1, .ref 302]) rfl rfl trivial ?_
      refine xw_G (pc' := 13) (st' := [.int c2, .ref c1, .ref 302]) rfl rfl trivial ?_
      refine xg_e hf (fun hg9 hf => ?_)
      refine xb_e hf (fun v6 h7 e8 hf => ?_)
      refine xw_V (v := some (.int v6)) rfl rfl hg9 (Nat.le_of_ble_eq_true rfl) (Nat.le_of_ble_eq_true rfl) (xm_Rn_le (Nat.le_of_ble_eq_true rfl) (t_J0_charAt_5068e  hS e8).1) ?_
      have hS := (t_J0_charAt_5068e  hS e8).2
      show xm_W _ _ _ 16 _ [.int v6, .ref 302] _
      refine xb_e hf (fun v10 h11 e12 hf => ?_)
      refine xw_V (v := none) rfl rfl (xkf (xs_k hS rfl rfl : xm_k h7 302 = (11, 0))) (Nat.le_of_ble_eq_true rfl) (Nat.le_of_ble_eq_true rfl) (xm_Rn_le (Nat.le_of_ble_eq_true rfl) (t_X11_put  hS e12).1) ?_
      have hS := (t_X11_put  hS e12).2
      show xm_W _ _ _ 19 _ [] _
      refine xw_G (pc' := 22) (ls' := [some (.ref 302), some (.ref c1), some (.int (c2 + (1 : Int32)))]) (st' := []) rfl rfl (Nat.le_of_ble_eq_true rfl) ?_
      refine xw_G (pc' := 2) (st' := []) rfl rfl trivial ?_
      refine xw_M rfl rfl ?_
      exact ih _ _ hS hf
    · exact xr_v (inj := xjv) rfl rfl hf hQ hS
theorem t_X11_putText {N : Nat} {ρ : Nat} {δ : Nat} {x1 : Nat} {h : xm_H} {w : Unit × xm_H}  (hS : xS ρ δ h) (hf : f_X11_putText N x1 h = some w) : xm_Rn xX 5 245 [.ref 302, .ref x1] h (xjv w.1) w.2 ∧ xS ρ δ w.2 := by
  refine xt_mk (φ := fun h => xS ρ δ h) (M := xM_X11_putText) (ls := [some (.ref 302), some (.ref x1), none]) rfl (Nat.le_of_ble_eq_true rfl) rfl (fun Q hQ => ?_)
  unfold f_X11_putText at hf
  refine xw_G (pc' := 1) (st' := [.int (0 : Int32)]) rfl rfl trivial ?_
  refine xw_G (pc' := 2) (ls' := [some (.ref 302), some (.ref x1), some (.int (0 : Int32))]) (st' := []) rfl rfl (Nat.le_of_ble_eq_true rfl) ?_
  refine xw_M rfl rfl ?_
  refine tl_X11_putText_2  hQ  _ _ _ hS hf
def f_X11_putNumber_2B (N : Nat) (c1 : Int32) (k18 : Int32 → xm_H → Option (Unit × xm_H)) (rec : Int32 → xm_H → Option (Unit × xm_H)) (c2 : Int32) (h : xm_H) : Option (Unit × xm_H) := (if ¬ c2 = 0 then (if (9 : Int32) < (c1 / c2) then (rec ((10 : Int32) * c2) h) else (k18 c2 h)) else none)
def f_X11_putNumber_2 (N : Nat) (c1 : Int32) (k18 : Int32 → xm_H → Option (Unit × xm_H)) : Nat → Int32 → xm_H → Option (Unit × xm_H)
  | 0 => fun _ _ => none
  | n + 1 => fun c2 h => f_X11_putNumber_2B N c1 k18 (f_X11_putNumber_2 N c1 k18 n) c2 h
def f_X11_putNumber_18B (N : Nat) (c1 : Int32) (rec : Int32 → xm_H → Option (Unit × xm_H)) (c2 : Int32) (h : xm_H) : Option (Unit × xm_H) := (if 0 < c2 then (if ¬ c2 = 0 then (xb (f_X11_put ((48 : Int32) + ((c1 / c2) - (c1 / c2) / (10 : Int32) * (10 : Int32))) h) fun v3 h4 => (rec (c2 / (10 : Int32)) h4)) else none) else (some ((), h)))
def f_X11_putNumber_18 (N : Nat) (c1 : Int32) : Nat → Int32 → xm_H → Option (Unit × xm_H)
  | 0 => fun _ _ => none
  | n + 1 => fun c2 h => f_X11_putNumber_18B N c1 (f_X11_putNumber_18 N c1 n) c2 h
def f_X11_putNumber (N : Nat) (x1 : Int32) (h : xm_H) : Option (Unit × xm_H) := (f_X11_putNumber_2 N x1 (fun (e1 : Int32) (h2 : xm_H) => (f_X11_putNumber_18 N x1 N e1 h2)) N (1 : Int32) h)
theorem tl_X11_putNumber_2 {ρ : Nat} {δ : Nat} {N : Nat} {c1 : Int32} {k18 : Int32 → xm_H → Option (Unit × xm_H)} {Q : xm_O → xm_H → Prop} {w : Unit × xm_H}  (hQ : xS ρ δ w.2 → Q (xjv w.1) w.2) (hk18 : ∀ (a0 : Int32) (h : xm_H), xS ρ δ h → k18 a0 h = some w → xm_W (xm_Rn xX 1) xM_X11_putNumber Q 18 [some (.ref 302), some (.int c1), some (.int a0)] [] h) : ∀ (n : Nat) (c2 : Int32) (h : xm_H), xS ρ δ h → f_X11_putNumber_2 N c1 k18 n c2 h = some w → xm_W (xm_Rn xX 1) xM_X11_putNumber Q 2 [some (.ref 302), some (.int c1), some (.int c2)] [] h := by
  intro n
  induction n with
  | zero =>
    intro c2 h hS hf
    exact (xn_e hf).elim
  | succ n ih =>
    intro c2 h hS hf
    replace hf : f_X11_putNumber_2B N c1 k18 (f_X11_putNumber_2 N c1 k18 n) c2 h = some w := hf
    unfold f_X11_putNumber_2B at hf
    refine xw_K (pc' := 3) (ls' := [some (.ref 302), some (.int c1), some (.int c2)]) (st' := [.int c1]) rfl rfl trivial ?_
    refine xw_G (pc' := 4) (st' := [.int c2, .int c1]) rfl rfl trivial ?_
    refine xg_e hf (fun hg1 hf => ?_)
    refine xw_G (pc' := 5) (st' := [.int (c1 / c2)]) rfl rfl hg1 ?_
    refine xw_G (pc' := 7) (st' := [.int (9 : Int32), .int (c1 / c2)]) rfl rfl trivial ?_
    refine xj_ic_le rfl hf (fun hc2 hf => ?_) (fun hc2 hf => ?_)
    · refine xw_G (pc' := 12) (st' := [.int (10 : Int32)]) rfl rfl trivial ?_
      refine xw_G (pc' := 13) (st' := [.int c2, .int (10 : Int32)]) rfl rfl trivial ?_
      refine xw_G (pc' := 14) (st' := [.int ((10 : Int32) * c2)]) rfl rfl trivial ?_
      refine xw_G (pc' := 15) (ls' := [some (.ref 302), some (.int c1), some (.int ((10 : Int32) * c2))]) (st' := []) rfl rfl (Nat.le_of_ble_eq_true rfl) ?_
      refine xw_G (pc' := 2) (st' := []) rfl rfl trivial ?_
      refine xw_M rfl rfl ?_
      exact ih _ _ hS hf
    · refine xw_M rfl rfl ?_
      exact hk18 _ _ hS hf
theorem tl_X11_putNumber_18 {ρ : Nat} {δ : Nat} {N : Nat} {c1 : Int32} {Q : xm_O → xm_H → Prop} {w : Unit × xm_H}  (hQ : xS ρ δ w.2 → Q (xjv w.1) w.2)  : ∀ (n : Nat) (c2 : Int32) (h : xm_H), xS ρ δ h → f_X11_putNumber_18 N c1 n c2 h = some w → xm_W (xm_Rn xX 1) xM_X11_putNumber Q 18 [some (.ref 302), some (.int c1), some (.int c2)] [] h := by
  intro n
  induction n with
  | zero =>
    intro c2 h hS hf
    exact (xn_e hf).elim
  | succ n ih =>
    intro c2 h hS hf
    replace hf : f_X11_putNumber_18B N c1 (f_X11_putNumber_18 N c1 n) c2 h = some w := hf
    unfold f_X11_putNumber_18B at hf
    refine xw_K (pc' := 19) (ls' := [some (.ref 302), some (.int c1), some (.int c2)]) (st' := [.int c2]) rfl rfl trivial ?_
    refine xj_if_le rfl hf (fun hc1 hf => ?_) (fun hc1 hf => ?_)
    · refine xw_G (pc' := 23) (st' := [.ref 302]) rfl rfl trivial ?_
      refine xw_G (pc' := 25) (st' := [.int (48 : Int32), .ref 302]) rfl rfl trivial ?_
      refine xw_G (pc' := 26) (st' := [.int c1, .int (48 : Int32), .ref 302]) rfl rfl trivial ?_
      refine xw_G (pc' := 27) (st' := [.int c2, .int c1, .int (48 : Int32), .ref 302]) rfl rfl trivial ?_
      refine xg_e hf (fun hg2 hf => ?_)
      refine xw_G (pc' := 28) (st' := [.int (c1 / c2), .int (48 : Int32), .ref 302]) rfl rfl hg2 ?_
      refine xw_G (pc' := 30) (st' := [.int (10 : Int32), .int (c1 / c2), .int (48 : Int32), .ref 302]) rfl rfl trivial ?_
      refine xw_G (pc' := 31) (st' := [.int ((c1 / c2) - (c1 / c2) / (10 : Int32) * (10 : Int32)), .int (48 : Int32), .ref 302]) rfl rfl (by decide) ?_
      refine xw_G (pc' := 32) (st' := [.int ((48 : Int32) + ((c1 / c2) - (c1 / c2) / (10 : Int32) * (10 : Int32))), .ref 302]) rfl rfl trivial ?_
      refine xb_e hf (fun v3 h4 e5 hf => ?_)
      refine xw_V (v := none) rfl rfl (xkf (xs_k hS rfl rfl : xm_k h 302 = (11, 0))) (Nat.le_of_ble_eq_true rfl) (Nat.le_of_ble_eq_true rfl) (xm_Rn_le (Nat.le_of_ble_eq_true rfl) (t_X11_put  hS e5).1) ?_
      have hS := (t_X11_put  hS e5).2
      show xm_W _ _ _ 35 _ [] _
      refine xw_G (pc' := 36) (st' := [.int c2]) rfl rfl trivial ?_
      refine xw_G (pc' := 38) (st' := [.int (10 : Int32), .int c2]) rfl rfl trivial ?_
      refine xw_G (pc' := 39) (st' := [.int (c2 / (10 : Int32))]) rfl rfl (by decide) ?_
      refine xw_G (pc' := 40) (ls' := [some (.ref 302), some (.int c1), some (.int (c2 / (10 : Int32)))]) (st' := []) rfl rfl (Nat.le_of_ble_eq_true rfl) ?_
      refine xw_G (pc' := 18) (st' := []) rfl rfl trivial ?_
      refine xw_M rfl rfl ?_
      exact ih _ _ hS hf
    · exact xr_v (inj := xjv) rfl rfl hf hQ hS
theorem t_X11_putNumber {N : Nat} {ρ : Nat} {δ : Nat} {x1 : Int32} {h : xm_H} {w : Unit × xm_H}  (hS : xS ρ δ h) (hf : f_X11_putNumber N x1 h = some w) : xm_Rn xX 2 246 [.ref 302, .int x1] h (xjv w.1) w.2 ∧ xS ρ δ w.2 := by
  refine xt_mk (φ := fun h => xS ρ δ h) (M := xM_X11_putNumber) (ls := [some (.ref 302), some (.int x1), none]) rfl (Nat.le_of_ble_eq_true rfl) rfl (fun Q hQ => ?_)
  unfold f_X11_putNumber at hf
  refine xw_G (pc' := 1) (st' := [.int (1 : Int32)]) rfl rfl trivial ?_
  refine xw_G (pc' := 2) (ls' := [some (.ref 302), some (.int x1), some (.int (1 : Int32))]) (st' := []) rfl rfl (Nat.le_of_ble_eq_true rfl) ?_
  refine xw_M rfl rfl ?_
  refine tl_X11_putNumber_2  hQ (fun e1 h2 hS hf => ?_) _ _ _ hS hf
  refine xw_M rfl rfl ?_
  refine tl_X11_putNumber_18  hQ  _ _ _ hS hf
def f_X11_write (N : Nat) (x1 : Int32) (h : xm_H) : Option (Int32 × xm_H) := (xb (f_X11_isCampaign x1 h) fun v1 h2 => (xb (f_X11_good v1 h2) fun v4 h5 => (if v4 = 0 then (some ((0 : Int32), h5)) else (xl (xm_si h5 302 30 (0 : Int32)) fun h8 => (if xin x1 8 then (xb (f_X11_putName N (xm_l h8 311 (Int32.toNatClampNeg x1)) h8) fun v11 h12 => (xb (f_X11_put (32 : Int32) h12) fun v14 h15 => (xb (f_X11_of x1 (4 : Int32) h15) fun v17 h18 => (xb (f_X11_modeWord v17 h18) fun v20 h21 => (xb (f_X11_putText N v20 h21) fun v23 h24 => (xb (f_X11_putText N 89 h24) fun v26 h27 => (xb (f_X11_of x1 (2 : Int32) h27) fun v29 h30 => (xb (f_X11_putNumber N v29 h30) fun v32 h33 => (xb (f_X11_put (47 : Int32) h33) fun v35 h36 => (xb (f_X11_of x1 (1 : Int32) h36) fun v38 h39 => (xb (f_X11_putNumber N v38 h39) fun v41 h42 => (xb (f_X11_putText N 91 h42) fun v44 h45 => (xb (f_X11_effective x1 h45) fun v47 h48 => (xb (f_X11_putNumber N v47 h48) fun v50 h51 => (xb (f_X11_of x1 (5 : Int32) h51) fun v53 h54 => (if v53 = (1 : Int32) then (xb (f_X11_putText N 93 h54) fun v57 h58 => (xb (f_X11_impressionsOf N x1 h58) fun v60 h61 => (if 0 < v60 then (xb (f_X11_putText N 95 h61) fun v64 h65 => (xb (f_X11_reachOf N x1 h65) fun v67 h68 => (xb (f_X11_putNumber N v67 h68) fun v70 h71 => (some (xm_i h71 302 30, h71))))) else (some (xm_i h61 302 30, h61))))) else (xb (f_X11_impressionsOf N x1 h54) fun v73 h74 => (if 0 < v73 then (xb (f_X11_putText N 95 h74) fun v77 h78 => (xb (f_X11_reachOf N x1 h78) fun v80 h81 => (xb (f_X11_putNumber N v80 h81) fun v83 h84 => (some (xm_i h84 302 30, h84))))) else (some (xm_i h74 302 30, h74)))))))))))))))))))) else none)))))
theorem t_X11_write {N : Nat} {ρ : Nat} {δ : Nat} {x1 : Int32} {h : xm_H} {w : Int32 × xm_H}  (hS : xS ρ δ h) (hf : f_X11_write N x1 h = some w) : xm_Rn xX 6 249 [.ref 302, .int x1] h (xji w.1) w.2 ∧ xS ρ δ w.2 := by
  refine xt_mk (φ := fun h => xS ρ δ h) (M := xM_X11_write) (ls := [some (.ref 302), some (.int x1)]) rfl (Nat.le_of_ble_eq_true rfl) rfl (fun Q hQ => ?_)
  unfold f_X11_write at hf
  refine xw_G (pc' := 1) (st' := [.ref 302]) rfl rfl trivial ?_
  refine xw_G (pc' := 2) (st' := [.ref 302, .ref 302]) rfl rfl trivial ?_
  refine xw_G (pc' := 3) (st' := [.int x1, .ref 302, .ref 302]) rfl rfl trivial ?_
  refine xb_e hf (fun v1 h2 e3 hf => ?_)
  refine xw_V (v := some (.int v1)) rfl rfl (xkf (xs_k hS rfl rfl : xm_k h 302 = (11, 0))) (Nat.le_of_ble_eq_true rfl) (Nat.le_of_ble_eq_true rfl) (xm_Rn_le (Nat.le_of_ble_eq_true rfl) (t_X11_isCampaign  hS e3).1) ?_
  have hS := (t_X11_isCampaign  hS e3).2
  show xm_W _ _ _ 6 _ [.int v1, .ref 302] _
  refine xb_e hf (fun v4 h5 e6 hf => ?_)
  refine xw_V (v := some (.int v4)) rfl rfl (xkf (xs_k hS rfl rfl : xm_k h2 302 = (11, 0))) (Nat.le_of_ble_eq_true rfl) (Nat.le_of_ble_eq_true rfl) (xm_Rn_le (Nat.le_of_ble_eq_true rfl) (t_X11_good  hS e6).1) ?_
  have hS := (t_X11_good  hS e6).2
  show xm_W _ _ _ 9 _ [.int v4] _
  refine xj_if_ne rfl hf (fun hc7 hf => ?_) (fun hc7 hf => ?_)
  · refine xw_G (pc' := 13) (st' := [.int (0 : Int32)]) rfl rfl trivial ?_
    exact xr_i (inj := xji) rfl rfl rfl rfl hf hQ hS
  · refine xw_G (pc' := 15) (st' := [.ref 302]) rfl rfl trivial ?_
    refine xw_G (pc' := 16) (st' := [.int (0 : Int32), .ref 302]) rfl rfl trivial ?_
    refine xp_i rfl (xkf (xs_k hS rfl rfl : xm_k h5 302 = (11, 0))) (Nat.le_of_ble_eq_true rfl) hf (fun h8 e9 hf => ?_)
    have hS := xS_si hS e9
    refine xw_G (pc' := 20) (st' := [.ref 302]) rfl rfl trivial ?_
    refine xw_G (pc' := 21) (st' := [.ref 302, .ref 302]) rfl rfl trivial ?_
    refine xw_gr rfl (xkf (xs_k hS rfl rfl : xm_k h8 302 = (11, 0))) (xs_r hS rfl) ?_
    refine xw_G (pc' := 25) (st' := [.int x1, .ref 311, .ref 302]) rfl rfl trivial ?_
    refine xg_e hf (fun hg10 hf => ?_)
    refine xa_ld (t := 104) (τ := 4) (v := .long (xm_l h8 311 (Int32.toNatClampNeg x1))) rfl rfl (xkf (xs_k hS rfl rfl : xm_k h8 311 = (104, 8))) (xkn (xs_k hS rfl rfl : xm_k h8 311 = (104, 8))) hg10 rfl ?_
    refine xb_e hf (fun v11 h12 e13 hf => ?_)
    refine xw_V (v := none) rfl rfl (xkf (xs_k hS rfl rfl : xm_k h8 302 = (11, 0))) (Nat.le_of_ble_eq_true rfl) (Nat.le_of_ble_eq_true rfl) (xm_Rn_le (Nat.le_of_ble_eq_true rfl) (t_X11_putName  hS e13).1) ?_
    have hS := (t_X11_putName  hS e13).2
    show xm_W _ _ _ 29 _ [] _
    refine xw_G (pc' := 30) (st' := [.ref 302]) rfl rfl trivial ?_
    refine xw_G (pc' := 32) (st' := [.int (32 : Int32), .ref 302]) rfl rfl trivial ?_
    refine xb_e hf (fun v14 h15 e16 hf => ?_)
    refine xw_V (v := none) rfl rfl (xkf (xs_k hS rfl rfl : xm_k h12 302 = (11, 0))) (Nat.le_of_ble_eq_true rfl) (Nat.le_of_ble_eq_true rfl) (xm_Rn_le (Nat.le_of_ble_eq_true rfl) (t_X11_put  hS e16).1) ?_
    have hS := (t_X11_put  hS e16).2
    show xm_W _ _ _ 35 _ [] _
    refine xw_G (pc' := 36) (st' := [.ref 302]) rfl rfl trivial ?_
    refine xw_G (pc' := 37) (st' := [.ref 302, .ref 302]) rfl rfl trivial ?_
    refine xw_G (pc' := 38) (st' := [.int x1, .ref 302, .ref 302]) rfl rfl trivial ?_
    refine xw_G (pc' := 39) (st' := [.int (4 : Int32), .int x1, .ref 302, .ref 302]) rfl rfl trivial ?_
    refine xb_e hf (fun v17 h18 e19 hf => ?_)
    refine xw_V (v := some (.int v17)) rfl rfl (xkf (xs_k hS rfl rfl : xm_k h15 302 = (11, 0))) (Nat.le_of_ble_eq_true rfl) (Nat.le_of_ble_eq_true rfl) (xm_Rn_le (Nat.le_of_ble_eq_true rfl) (t_X11_of  hS e19).1) ?_
    have hS := (t_X11_of  hS e19).2
    show xm_W _ _ _ 42 _ [.int v17, .ref 302] _
    refine xb_e hf (fun v20 h21 e22 hf => ?_)
    refine xw_S (v := some (.ref v20)) rfl (Nat.le_of_ble_eq_true rfl) (Nat.le_of_ble_eq_true rfl) (xm_Rn_le (Nat.le_of_ble_eq_true rfl) (t_X11_modeWord  hS e22).1) ?_
    have hS := (t_X11_modeWord  hS e22).2
    show xm_W _ _ _ 45 _ [.ref v20, .ref 302] _
    refine xb_e hf (fun v23 h24 e25 hf => ?_)
    refine xw_V (v := none) rfl rfl (xkf (xs_k hS rfl rfl : xm_k h21 302 = (11, 0))) (Nat.le_of_ble_eq_true rfl) (Nat.le_of_ble_eq_true rfl) (xm_Rn_le (Nat.le_of_ble_eq_true rfl) (t_X11_putText  hS e25).1) ?_
    have hS := (t_X11_putText  hS e25).2
    show xm_W _ _ _ 48 _ [] _
    refine xw_G (pc' := 49) (st' := [.ref 302]) rfl rfl trivial ?_
    refine xw_G (pc' := 52) (st' := [.ref 89, .ref 302]) rfl rfl trivial ?_
    refine xb_e hf (fun v26 h27 e28 hf => ?_)
    refine xw_V (v := none) rfl rfl (xkf (xs_k hS rfl rfl : xm_k h24 302 = (11, 0))) (Nat.le_of_ble_eq_true rfl) (Nat.le_of_ble_eq_true rfl) (xm_Rn_le (Nat.le_of_ble_eq_true rfl) (t_X11_putText  hS e28).1) ?_
    have hS := (t_X11_putText  hS e28).2
    show xm_W _ _ _ 55 _ [] _
    refine xw_G (pc' := 56) (st' := [.ref 302]) rfl rfl trivial ?_
    refine xw_G (pc' := 57) (st' := [.ref 302, .ref 302]) rfl rfl trivial ?_
    refine xw_G (pc' := 58) (st' := [.int x1, .ref 302, .ref 302]) rfl rfl trivial ?_
    refine xw_G (pc' := 59) (st' := [.int (2 : Int32), .int x1, .ref 302, .ref 302]) rfl rfl trivial ?_
    refine xb_e hf (fun v29 h30 e31 hf => ?_)
    refine xw_V (v := some (.int v29)) rfl rfl (xkf (xs_k hS rfl rfl : xm_k h27 302 = (11, 0))) (Nat.le_of_ble_eq_true rfl) (Nat.le_of_ble_eq_true rfl) (xm_Rn_le (Nat.le_of_ble_eq_true rfl) (t_X11_of  hS e31).1) ?_
    have hS := (t_X11_of  hS e31).2
    show xm_W _ _ _ 62 _ [.int v29, .ref 302] _
    refine xb_e hf (fun v32 h33 e34 hf => ?_)
    refine xw_V (v := none) rfl rfl (xkf (xs_k hS rfl rfl : xm_k h30 302 = (11, 0))) (Nat.le_of_ble_eq_true rfl) (Nat.le_of_ble_eq_true rfl) (xm_Rn_le (Nat.le_of_ble_eq_true rfl) (t_X11_putNumber  hS e34).1) ?_
    have hS := (t_X11_putNumber  hS e34).2
    show xm_W _ _ _ 65 _ [] _
    refine xw_G (pc' := 66) (st' := [.ref 302]) rfl rfl trivial ?_
    refine xw_G (pc' := 68) (st' := [.int (47 : Int32), .ref 302]) rfl rfl trivial ?_
    refine xb_e hf (fun v35 h36 e37 hf => ?_)
    refine xw_V (v := none) rfl rfl (xkf (xs_k hS rfl rfl : xm_k h33 302 = (11, 0))) (Nat.le_of_ble_eq_true rfl) (Nat.le_of_ble_eq_true rfl) (xm_Rn_le (Nat.le_of_ble_eq_true rfl) (t_X11_put  hS e37).1) ?_
    have hS := (t_X11_put  hS e37).2
    show xm_W _ _ _ 71 _ [] _
    refine xw_G (pc' := 72) (st' := [.ref 302]) rfl rfl trivial ?_
    refine xw_G (pc' := 73) (st' := [.ref 302, .ref 302]) rfl rfl trivial ?_
    refine xw_G (pc' := 74) (st' := [.int x1, .ref 302, .ref 302]) rfl rfl trivial ?_
    refine xw_G (pc' := 75) (st' := [.int (1 : Int32), .int x1, .ref 302, .ref 302]) rfl rfl trivial ?_
    refine xb_e hf (fun v38 h39 e40 hf => ?_)
    refine xw_V (v := some (.int v38)) rfl rfl (xkf (xs_k hS rfl rfl : xm_k h36 302 = (11, 0))) (Nat.le_of_ble_eq_true rfl) (Nat.le_of_ble_eq_true rfl) (xm_Rn_le (Nat.le_of_ble_eq_true rfl) (t_X11_of  hS e40).1) ?_
    have hS := (t_X11_of  hS e40).2
    show xm_W _ _ _ 78 _ [.int v38, .ref 302] _
    refine xb_e hf (fun v41 h42 e43 hf => ?_)
    refine xw_V (v := none) rfl rfl (xkf (xs_k hS rfl rfl : xm_k h39 302 = (11, 0))) (Nat.le_of_ble_eq_true rfl) (Nat.le_of_ble_eq_true rfl) (xm_Rn_le (Nat.le_of_ble_eq_true rfl) (t_X11_putNumber  hS e43).1) ?_
    have hS := (t_X11_putNumber  hS e43).2
    show xm_W _ _ _ 81 _ [] _
    refine xw_G (pc' := 82) (st' := [.ref 302]) rfl rfl trivial ?_
    refine xw_G (pc' := 85) (st' := [.ref 91, .ref 302]) rfl rfl trivial ?_
    refine xb_e hf (fun v44 h45 e46 hf => ?_)
    refine xw_V (v := none) rfl rfl (xkf (xs_k hS rfl rfl : xm_k h42 302 = (11, 0))) (Nat.le_of_ble_eq_true rfl) (Nat.le_of_ble_eq_true rfl) (xm_Rn_le (Nat.le_of_ble_eq_true rfl) (t_X11_putText  hS e46).1) ?_
    have hS := (t_X11_putText  hS e46).2
    show xm_W _ _ _ 88 _ [] _
    refine xw_G (pc' := 89) (st' := [.ref 302]) rfl rfl trivial ?_
    refine xw_G (pc' := 90) (st' := [.ref 302, .ref 302]) rfl rfl trivial ?_
    refine xw_G (pc' := 91) (st' := [.int x1, .ref 302, .ref 302]) rfl rfl trivial ?_
    refine xb_e hf (fun v47 h48 e49 hf => ?_)
    refine xw_V (v := some (.int v47)) rfl rfl (xkf (xs_k hS rfl rfl : xm_k h45 302 = (11, 0))) (Nat.le_of_ble_eq_true rfl) (Nat.le_of_ble_eq_true rfl) (xm_Rn_le (Nat.le_of_ble_eq_true rfl) (t_X11_effective  hS e49).1) ?_
    have hS := (t_X11_effective  hS e49).2
    show xm_W _ _ _ 94 _ [.int v47, .ref 302] _
    refine xb_e hf (fun v50 h51 e52 hf => ?_)
    refine xw_V (v := none) rfl rfl (xkf (xs_k hS rfl rfl : xm_k h48 302 = (11, 0))) (Nat.le_of_ble_eq_true rfl) (Nat.le_of_ble_eq_true rfl) (xm_Rn_le (Nat.le_of_ble_eq_true rfl) (t_X11_putNumber  hS e52).1) ?_
    have hS := (t_X11_putNumber  hS e52).2
    show xm_W _ _ _ 97 _ [] _
    refine xw_G (pc' := 98) (st' := [.ref 302]) rfl rfl trivial ?_
    refine xw_G (pc' := 99) (st' := [.int x1, .ref 302]) rfl rfl trivial ?_
    refine xw_G (pc' := 100) (st' := [.int (5 : Int32), .int x1, .ref 302]) rfl rfl trivial ?_
    refine xb_e hf (fun v53 h54 e55 hf => ?_)
    refine xw_V (v := some (.int v53)) rfl rfl (xkf (xs_k hS rfl rfl : xm_k h51 302 = (11, 0))) (Nat.le_of_ble_eq_true rfl) (Nat.le_of_ble_eq_true rfl) (xm_Rn_le (Nat.le_of_ble_eq_true rfl) (t_X11_of  hS e55).1) ?_
    have hS := (t_X11_of  hS e55).2
    show xm_W _ _ _ 103 _ [.int v53] _
    refine xw_G (pc' := 104) (st' := [.int (1 : Int32), .int v53]) rfl rfl trivial ?_
    refine xj_ic_ne rfl hf (fun hc56 hf => ?_) (fun hc56 hf => ?_)
    · refine xw_G (pc' := 108) (st' := [.ref 302]) rfl rfl trivial ?_
      refine xw_G (pc' := 111) (st' := [.ref 93, .ref 302]) rfl rfl trivial ?_
      refine xb_e hf (fun v57 h58 e59 hf => ?_)
      refine xw_V (v := none) rfl rfl (xkf (xs_k hS rfl rfl : xm_k h54 302 = (11, 0))) (Nat.le_of_ble_eq_true rfl) (Nat.le_of_ble_eq_true rfl) (xm_Rn_le (Nat.le_of_ble_eq_true rfl) (t_X11_putText  hS e59).1) ?_
      have hS := (t_X11_putText  hS e59).2
      show xm_W _ _ _ 114 _ [] _
      refine xw_G (pc' := 115) (st' := [.ref 302]) rfl rfl trivial ?_
      refine xw_G (pc' := 116) (st' := [.int x1, .ref 302]) rfl rfl trivial ?_
      refine xb_e hf (fun v60 h61 e62 hf => ?_)
      refine xw_V (v := some (.int v60)) rfl rfl (xkf (xs_k hS rfl rfl : xm_k h58 302 = (11, 0))) (Nat.le_of_ble_eq_true rfl) (Nat.le_of_ble_eq_true rfl) (xm_Rn_le (Nat.le_of_ble_eq_true rfl) (t_X11_impressionsOf  hS e62).1) ?_
      have hS := (t_X11_impressionsOf  hS e62).2
      show xm_W _ _ _ 119 _ [.int v60] _
      refine xj_if_le rfl hf (fun hc63 hf => ?_) (fun hc63 hf => ?_)
      · refine xw_G (pc' := 123) (st' := [.ref 302]) rfl rfl trivial ?_
        refine xw_G (pc' := 126) (st' := [.ref 95, .ref 302]) rfl rfl trivial ?_
        refine xb_e hf (fun v64 h65 e66 hf => ?_)
        refine xw_V (v := none) rfl rfl (xkf (xs_k hS rfl rfl : xm_k h61 302 = (11, 0))) (Nat.le_of_ble_eq_true rfl) (Nat.le_of_ble_eq_true rfl) (xm_Rn_le (Nat.le_of_ble_eq_true rfl) (t_X11_putText  hS e66).1) ?_
        have hS := (t_X11_putText  hS e66).2
        show xm_W _ _ _ 129 _ [] _
        refine xw_G (pc' := 130) (st' := [.ref 302]) rfl rfl trivial ?_
        refine xw_G (pc' := 131) (st' := [.ref 302, .ref 302]) rfl rfl trivial ?_
        refine xw_G (pc' := 132) (st' := [.int x1, .ref 302, .ref 302]) rfl rfl trivial ?_
        refine xb_e hf (fun v67 h68 e69 hf => ?_)
        refine xw_V (v := some (.int v67)) rfl rfl (xkf (xs_k hS rfl rfl : xm_k h65 302 = (11, 0))) (Nat.le_of_ble_eq_true rfl) (Nat.le_of_ble_eq_true rfl) (xm_Rn_le (Nat.le_of_ble_eq_true rfl) (t_X11_reachOf  hS e69).1) ?_
        have hS := (t_X11_reachOf  hS e69).2
        show xm_W _ _ _ 135 _ [.int v67, .ref 302] _
        refine xb_e hf (fun v70 h71 e72 hf => ?_)
        refine xw_V (v := none) rfl rfl (xkf (xs_k hS rfl rfl : xm_k h68 302 = (11, 0))) (Nat.le_of_ble_eq_true rfl) (Nat.le_of_ble_eq_true rfl) (xm_Rn_le (Nat.le_of_ble_eq_true rfl) (t_X11_putNumber  hS e72).1) ?_
        have hS := (t_X11_putNumber  hS e72).2
        show xm_W _ _ _ 138 _ [] _
        refine xw_G (pc' := 139) (st' := [.ref 302]) rfl rfl trivial ?_
        refine xw_G (pc' := 142) (st' := [.int (xm_i h71 302 30)]) rfl rfl (xkf (xs_k hS rfl rfl : xm_k h71 302 = (11, 0))) ?_
        exact xr_i (inj := xji) rfl rfl rfl rfl hf hQ hS
      · refine xw_G (pc' := 139) (st' := [.ref 302]) rfl rfl trivial ?_
        refine xw_G (pc' := 142) (st' := [.int (xm_i h61 302 30)]) rfl rfl (xkf (xs_k hS rfl rfl : xm_k h61 302 = (11, 0))) ?_
        exact xr_i (inj := xji) rfl rfl rfl rfl hf hQ hS
    · refine xw_G (pc' := 115) (st' := [.ref 302]) rfl rfl trivial ?_
      refine xw_G (pc' := 116) (st' := [.int x1, .ref 302]) rfl rfl trivial ?_
      refine xb_e hf (fun v73 h74 e75 hf => ?_)
      refine xw_V (v := some (.int v73)) rfl rfl (xkf (xs_k hS rfl rfl : xm_k h54 302 = (11, 0))) (Nat.le_of_ble_eq_true rfl) (Nat.le_of_ble_eq_true rfl) (xm_Rn_le (Nat.le_of_ble_eq_true rfl) (t_X11_impressionsOf  hS e75).1) ?_
      have hS := (t_X11_impressionsOf  hS e75).2
      show xm_W _ _ _ 119 _ [.int v73] _
      refine xj_if_le rfl hf (fun hc76 hf => ?_) (fun hc76 hf => ?_)
      · refine xw_G (pc' := 123) (st' := [.ref 302]) rfl rfl trivial ?_
        refine xw_G (pc' := 126) (st' := [.ref 95, .ref 302]) rfl rfl trivial ?_
        refine xb_e hf (fun v77 h78 e79 hf => ?_)
        refine xw_V (v := none) rfl rfl (xkf (xs_k hS rfl rfl : xm_k h74 302 = (11, 0))) (Nat.le_of_ble_eq_true rfl) (Nat.le_of_ble_eq_true rfl) (xm_Rn_le (Nat.le_of_ble_eq_true rfl) (t_X11_putText  hS e79).1) ?_
        have hS := (t_X11_putText  hS e79).2
        show xm_W _ _ _ 129 _ [] _
        refine xw_G (pc' := 130) (st' := [.ref 302]) rfl rfl trivial ?_
        refine xw_G (pc' := 131) (st' := [.ref 302, .ref 302]) rfl rfl trivial ?_
        refine xw_G (pc' := 132) (st' := [.int x1, .ref 302, .ref 302]) rfl rfl trivial ?_
        refine xb_e hf (fun v80 h81 e82 hf => ?_)
        refine xw_V (v := some (.int v80)) rfl rfl (xkf (xs_k hS rfl rfl : xm_k h78 302 = (11, 0))) (Nat.le_of_ble_eq_true rfl) (Nat.le_of_ble_eq_true rfl) (xm_Rn_le (Nat.le_of_ble_eq_true rfl) (t_X11_reachOf  hS e82).1) ?_
        have hS := (t_X11_reachOf  hS e82).2
        show xm_W _ _ _ 135 _ [.int v80, .ref 302] _
        refine xb_e hf (fun v83 h84 e85 hf => ?_)
        refine xw_V (v := none) rfl rfl (xkf (xs_k hS rfl rfl : xm_k h81 302 = (11, 0))) (Nat.le_of_ble_eq_true rfl) (Nat.le_of_ble_eq_true rfl) (xm_Rn_le (Nat.le_of_ble_eq_true rfl) (t_X11_putNumber  hS e85).1) ?_
        have hS := (t_X11_putNumber  hS e85).2
        show xm_W _ _ _ 138 _ [] _
        refine xw_G (pc' := 139) (st' := [.ref 302]) rfl rfl trivial ?_
        refine xw_G (pc' := 142) (st' := [.int (xm_i h84 302 30)]) rfl rfl (xkf (xs_k hS rfl rfl : xm_k h84 302 = (11, 0))) ?_
        exact xr_i (inj := xji) rfl rfl rfl rfl hf hQ hS
      · refine xw_G (pc' := 139) (st' := [.ref 302]) rfl rfl trivial ?_
        refine xw_G (pc' := 142) (st' := [.int (xm_i h74 302 30)]) rfl rfl (xkf (xs_k hS rfl rfl : xm_k h74 302 = (11, 0))) ?_
        exact xr_i (inj := xji) rfl rfl rfl rfl hf hQ hS
def f_J5_charAt_5068e (x1 : Int32) (h : xm_H) : Option (Int32 × xm_H) := (xbr (xm_r h 300 0) fun b1 => (if 100 ≤ (xm_k h b1).1 ∧ (xm_k h b1).1 < 109 then (xb (f_J0_checkIndex_df160 x1 (if ((Int32.ofNat (xm_k h b1).2) >>> ((xm_i h 300 1) &&& 31)) < (xm_i h 300 3) then ((Int32.ofNat (xm_k h b1).2) >>> ((xm_i h 300 1) &&& 31)) else (xm_i h 300 3)) h) fun v4 h5 => (if (xm_i h 300 1) = 0 then (if (xm_k h5 b1).1 = 102 then (if xin x1 (xm_k h5 b1).2 then (if vp_nar .char (((Int32.toUInt32 ((xm_i h5 b1 (Int32.toNatClampNeg x1)) &&& (255 : Int32))) % 65536).toInt32) = (((Int32.toUInt32 ((xm_i h5 b1 (Int32.toNatClampNeg x1)) &&& (255 : Int32))) % 65536).toInt32) then (some (((Int32.toUInt32 ((xm_i h5 b1 (Int32.toNatClampNeg x1)) &&& (255 : Int32))) % 65536).toInt32, h5)) else none) else none) else none) else none)) else none))
theorem t_J5_charAt_5068e {ρ : Nat} {δ : Nat} {x1 : Int32} {h : xm_H} {w : Int32 × xm_H}  (hS : xS ρ δ h) (hf : f_J5_charAt_5068e x1 h = some w) : xm_Rn xX 3 257 [.ref 300, .int x1] h (xji w.1) w.2 ∧ xS ρ δ w.2 := by
  refine xt_mk (φ := fun h => xS ρ δ h) (M := xM_J5_charAt_5068e) (ls := [some (.ref 300), some (.int x1), none, none, none]) rfl (Nat.le_of_ble_eq_true rfl) rfl (fun Q hQ => ?_)
  unfold f_J5_charAt_5068e at hf
  refine xw_G (pc' := 1) (st' := [.ref 300]) rfl rfl trivial ?_
  refine xw_G (pc' := 4) (st' := [.int (xm_i h 300 1)]) rfl rfl (xkf (xs_k hS rfl rfl : xm_k h 300 = (13, 0))) ?_
  refine xw_G (pc' := 5) (ls' := [some (.ref 300), some (.int x1), some (.int (xm_i h 300 1)), none, none]) (st' := []) rfl rfl (Nat.le_of_ble_eq_true rfl) ?_
  refine xw_G (pc' := 6) (st' := [.ref 300]) rfl rfl trivial ?_
  refine xbr_e hf (fun b1 hr2 hf => ?_)
  refine xw_gr rfl (xkf (xs_k hS rfl rfl : xm_k h 300 = (13, 0))) hr2 ?_
  refine xw_G (pc' := 10) (ls' := [some (.ref 300), some (.int x1), some (.int (xm_i h 300 1)), some (.ref b1), none]) (st' := []) rfl rfl (Nat.le_of_ble_eq_true rfl) ?_
  refine xw_G (pc' := 11) (st' := [.ref 300]) rfl rfl trivial ?_
  refine xw_G (pc' := 14) (st' := [.int (xm_i h 300 3)]) rfl rfl (xkf (xs_k hS rfl rfl : xm_k h 300 = (13, 0))) ?_
  refine xw_G (pc' := 15) (st' := [.ref b1, .int (xm_i h 300 3)]) rfl rfl trivial ?_
  refine xg_e hf (fun hg3 hf => ?_)
  refine xa_len rfl hg3 rfl ?_
  refine xw_G (pc' := 17) (st' := [.int (xm_i h 300 1), .int (Int32.ofNat (xm_k h b1).2), .int (xm_i h 300 3)]) rfl rfl trivial ?_
  refine xw_G (pc' := 18) (st' := [.int ((Int32.ofNat (xm_k h b1).2) >>> ((xm_i h 300 1) &&& 31)), .int (xm_i h 300 3)]) rfl rfl trivial ?_
  refine xw_min rfl (Nat.le_of_ble_eq_true rfl) ?_
  refine xw_G (pc' := 23) (ls' := [some (.ref 300), some (.int x1), some (.int (xm_i h 300 1)), some (.ref b1), some (.int (if ((Int32.ofNat (xm_k h b1).2) >>> ((xm_i h 300 1) &&& 31)) < (xm_i h 300 3) then ((Int32.ofNat (xm_k h b1).2) >>> ((xm_i h 300 1) &&& 31)) else (xm_i h 300 3)))]) (st' := []) rfl rfl (Nat.le_of_ble_eq_true rfl) ?_
  refine xw_G (pc' := 24) (st' := [.int x1]) rfl rfl trivial ?_
  refine xw_G (pc' := 26) (st' := [.int (if ((Int32.ofNat (xm_k h b1).2) >>> ((xm_i h 300 1) &&& 31)) < (xm_i h 300 3) then ((Int32.ofNat (xm_k h b1).2) >>> ((xm_i h 300 1) &&& 31)) else (xm_i h 300 3)), .int x1]) rfl rfl trivial ?_
  refine xb_e hf (fun v4 h5 e6 hf => ?_)
  refine xw_S (v := none) rfl (Nat.le_of_ble_eq_true rfl) (Nat.le_of_ble_eq_true rfl) (xm_Rn_le (Nat.le_of_ble_eq_true rfl) (t_J0_checkIndex_df160  hS e6).1) ?_
  have hS := (t_J0_checkIndex_df160  hS e6).2
  show xm_W _ _ _ 29 _ [] _
  refine xw_G (pc' := 30) (st' := [.int (xm_i h 300 1)]) rfl rfl trivial ?_
  refine xj_if_ne rfl hf (fun hc7 hf => ?_) (fun hc7 hf => ?_)
  · refine xw_G (pc' := 34) (st' := [.ref b1]) rfl rfl trivial ?_
    refine xw_G (pc' := 35) (st' := [.int x1, .ref b1]) rfl rfl trivial ?_
    refine xg_e hf (fun hg8 hf => ?_)
    refine xg_e hf (fun hg9 hf => ?_)
    refine xa_ld (t := 102) (τ := 0) (v := .int (xm_i h5 b1 (Int32.toNatClampNeg x1))) rfl rfl hg8 rfl hg9 rfl ?_
    refine xw_G (pc' := 39) (st' := [.int (255 : Int32), .int (xm_i h5 b1 (Int32.toNatClampNeg x1))]) rfl rfl trivial ?_
    refine xw_G (pc' := 40) (st' := [.int ((xm_i h5 b1 (Int32.toNatClampNeg x1)) &&& (255 : Int32))]) rfl rfl trivial ?_
    refine xw_G (pc' := 41) (st' := [.int (((Int32.toUInt32 ((xm_i h5 b1 (Int32.toNatClampNeg x1)) &&& (255 : Int32))) % 65536).toInt32)]) rfl rfl trivial ?_
    refine xg_e hf (fun hg10 hf => ?_)
    exact xr_i (inj := xji) rfl rfl (xnar_c hg10) rfl hf hQ hS
  · refine xw_G (pc' := 43) (st' := [.ref b1]) rfl rfl trivial ?_
    refine xw_G (pc' := 44) (st' := [.int x1, .ref b1]) rfl rfl trivial ?_
    exact (xn_e hf).elim
def f_J4_charAt_5068e (x1 : Int32) (h : xm_H) : Option (Int32 × xm_H) := (xb (f_J5_charAt_5068e x1 h) fun v1 h2 => (if vp_nar .char v1 = v1 then (some (v1, h2)) else none))
theorem t_J4_charAt_5068e {ρ : Nat} {δ : Nat} {x1 : Int32} {h : xm_H} {w : Int32 × xm_H}  (hS : xS ρ δ h) (hf : f_J4_charAt_5068e x1 h = some w) : xm_Rn xX 4 287 [.ref 300, .int x1] h (xji w.1) w.2 ∧ xS ρ δ w.2 := by
  refine xt_mk (φ := fun h => xS ρ δ h) (M := xM_J4_charAt_5068e) (ls := [some (.ref 300), some (.int x1)]) rfl (Nat.le_of_ble_eq_true rfl) rfl (fun Q hQ => ?_)
  unfold f_J4_charAt_5068e at hf
  refine xw_G (pc' := 1) (st' := [.ref 300]) rfl rfl trivial ?_
  refine xw_G (pc' := 2) (st' := [.int x1, .ref 300]) rfl rfl trivial ?_
  refine xb_e hf (fun v1 h2 e3 hf => ?_)
  refine xw_I7 (v := some (.int v1)) rfl rfl (xkf (xs_k hS rfl rfl : xm_k h 300 = (13, 0))) (Nat.le_of_ble_eq_true rfl) (Nat.le_of_ble_eq_true rfl) (xm_Rn_le (Nat.le_of_ble_eq_true rfl) (t_J5_charAt_5068e  hS e3).1) ?_
  have hS := (t_J5_charAt_5068e  hS e3).2
  show xm_W _ _ _ 5 _ [.int v1] _
  refine xg_e hf (fun hg4 hf => ?_)
  exact xr_i (inj := xji) rfl rfl (xnar_c hg4) rfl hf hQ hS
def f_X10_written (x1 : Int32) (h : xm_H) : Option ((Int32 ⊕ Nat × Nat) × xm_H) := (if x1 < 0 then (some (.inr (14, xm_n h), xm_new h (14, 0))) else (xb (f_J4_length_8abf5 h) fun v2 h3 => (if x1 < v2 then (xb (f_J4_charAt_5068e x1 h3) fun v6 h7 => (if vp_nar .char v6 = v6 then (some (.inl v6, h7)) else none)) else (some (.inr (14, xm_n h3), xm_new h3 (14, 0))))))
theorem t_X10_written {ρ : Nat} {δ : Nat} {x1 : Int32} {h : xm_H} {w : (Int32 ⊕ Nat × Nat) × xm_H}  (hS : xS ρ δ h) (hf : f_X10_written x1 h = some w) : xm_Rn xX 5 122 [.ref 160, .int x1] h (xti w.1) w.2 ∧ xS ρ δ w.2 := by
  refine xt_mk (φ := fun h => xS ρ δ h) (M := xM_X10_written) (ls := [some (.ref 160), some (.int x1)]) rfl (Nat.le_of_ble_eq_true rfl) rfl (fun Q hQ => ?_)
  unfold f_X10_written at hf
  refine xw_G (pc' := 1) (st' := [.int x1]) rfl rfl trivial ?_
  refine xj_if_lt rfl hf (fun hc1 hf => ?_) (fun hc1 hf => ?_)
  · exact xr_t (inj := xti) rfl (Nat.le_of_ble_eq_true rfl) rfl hf hQ (xS_new hS rfl)
  · refine xw_G (pc' := 5) (st' := [.int x1]) rfl rfl trivial ?_
    refine xw_G (pc' := 6) (st' := [.ref 160, .int x1]) rfl rfl trivial ?_
    refine xw_gr rfl (xkf (xs_k hS rfl rfl : xm_k h 160 = (0, 0))) (xs_r hS rfl) ?_
    refine xb_e hf (fun v2 h3 e4 hf => ?_)
    refine xw_V (v := some (.int v2)) rfl rfl (xkf (xs_k hS rfl rfl : xm_k h 300 = (13, 0))) (Nat.le_of_ble_eq_true rfl) (Nat.le_of_ble_eq_true rfl) (xm_Rn_le (Nat.le_of_ble_eq_true rfl) (t_J4_length_8abf5  hS e4).1) ?_
    have hS := (t_J4_length_8abf5  hS e4).2
    show xm_W _ _ _ 12 _ [.int v2, .int x1] _
    refine xj_ic_lt rfl hf (fun hc5 hf => ?_) (fun hc5 hf => ?_)
    · refine xw_G (pc' := 27) (st' := [.ref 160]) rfl rfl trivial ?_
      refine xw_gr rfl (xkf (xs_k hS rfl rfl : xm_k h3 160 = (0, 0))) (xs_r hS rfl) ?_
      refine xw_G (pc' := 31) (st' := [.int x1, .ref 300]) rfl rfl trivial ?_
      refine xb_e hf (fun v6 h7 e8 hf => ?_)
      refine xw_V (v := some (.int v6)) rfl rfl (xkf (xs_k hS rfl rfl : xm_k h3 300 = (13, 0))) (Nat.le_of_ble_eq_true rfl) (Nat.le_of_ble_eq_true rfl) (xm_Rn_le (Nat.le_of_ble_eq_true rfl) (t_J4_charAt_5068e  hS e8).1) ?_
      have hS := (t_J4_charAt_5068e  hS e8).2
      show xm_W _ _ _ 34 _ [.int v6] _
      refine xg_e hf (fun hg9 hf => ?_)
      exact xr_i (inj := xti) rfl rfl (xnar_c hg9) rfl hf hQ hS
    · exact xr_t (inj := xti) rfl (Nat.le_of_ble_eq_true rfl) rfl hf hQ (xS_new hS rfl)
def f_L_written (x1 : Int32) (h : xm_H) : Option (Int32 × xm_H) := (xe (f_X10_written x1 h) (fun v1 h2 => (xl (xm_sl h2 316 0 (Int32.toInt64 v1)) fun h4 => (some ((0 : Int32), h4)))) (fun q6 h7 => (if (q6).1 = 14 then (some ((1 : Int32), h7)) else none)))
theorem t_L_written {ρ : Nat} {δ : Nat} {x1 : Int32} {h : xm_H} {w : Int32 × xm_H}  (hS : xS ρ δ h) (hf : f_L_written x1 h = some w) : xm_Rn xX 6 361 [.ref 160, .int x1, .ref 316] h (xji w.1) w.2 ∧ xS ρ δ w.2 := by
  refine xt_mk (φ := fun h => xS ρ δ h) (M := xM_L_written) (ls := [some (.ref 160), some (.int x1), some (.ref 316), none]) rfl (Nat.le_of_ble_eq_true rfl) rfl (fun Q hQ => ?_)
  unfold f_L_written at hf
  refine xw_G (pc' := 1) (st' := [.ref 316]) rfl rfl trivial ?_
  refine xw_G (pc' := 2) (st' := [.int (0 : Int32), .ref 316]) rfl rfl trivial ?_
  refine xw_G (pc' := 3) (st' := [.ref 160, .int (0 : Int32), .ref 316]) rfl rfl trivial ?_
  refine xw_G (pc' := 4) (st' := [.int x1, .ref 160, .int (0 : Int32), .ref 316]) rfl rfl trivial ?_
  refine xe_e hf (fun v1 h2 e3 hf => ?_) (fun q6 h7 e3 hf => ?_)
  · refine xw_V (v := some (.int v1)) rfl rfl (xkf (xs_k hS rfl rfl : xm_k h 160 = (0, 0))) (Nat.le_of_ble_eq_true rfl) (Nat.le_of_ble_eq_true rfl) (xm_Rn_le (Nat.le_of_ble_eq_true rfl) (t_X10_written  hS e3).1) ?_
    have hS := (t_X10_written  hS e3).2
    show xm_W _ _ _ 7 _ [.int v1, .int (0 : Int32), .ref 316] _
    refine xw_G (pc' := 8) (st' := [.long (Int32.toInt64 v1), .int (0 : Int32), .ref 316]) rfl rfl trivial ?_
    refine xa_l rfl (xkf (xs_k hS rfl rfl : xm_k h2 316 = (104, 1))) (xkn (xs_k hS rfl rfl : xm_k h2 316 = (104, 1))) (by decide : xin (0 : Int32) 1) (Nat.le_of_ble_eq_true rfl) hf (fun h4 e5 hf => ?_)
    have hS := xS_sl hS e5
    refine xw_G (pc' := 15) (st' := []) rfl rfl trivial ?_
    refine xw_G (pc' := 16) (st' := [.int (0 : Int32)]) rfl rfl trivial ?_
    exact xr_i (inj := xji) rfl rfl rfl rfl hf hQ hS
  · by_cases hc8 : (q6).1 = 14
    · rw [if_pos hc8] at hf
      refine xw_VH (x := q6) (p := 12) rfl rfl (xkf (xs_k hS rfl rfl : xm_k h 160 = (0, 0))) (Nat.le_of_ble_eq_true rfl) (Nat.le_of_ble_eq_true rfl) (xm_Rn_le (Nat.le_of_ble_eq_true rfl) (t_X10_written  hS e3).1) (by rw [hc8]; rfl) ?_
      have hS := (t_X10_written  hS e3).2
      refine xw_G (pc' := 13) (ls' := [some (.ref 160), some (.int x1), some (.ref 316), some (.ref ((q6).2))]) (st' := []) rfl rfl (Nat.le_of_ble_eq_true rfl) ?_
      refine xw_G (pc' := 14) (st' := [.int (1 : Int32)]) rfl rfl trivial ?_
      exact xr_i (inj := xji) rfl rfl rfl rfl hf hQ hS
    · rw [if_neg hc8] at hf
      exact (xn_e hf).elim
def f_X11_written (x1 : Int32) (h : xm_H) : Option (Int32 × xm_H) := (xb (f_X11_between (Int32.toInt64 x1) (0 : Int64) (Int32.toInt64 ((xm_i h 302 30) - (1 : Int32))) h) fun v1 h2 => (xb (f_X11_good v1 h2) fun v4 h5 => (if v4 = 0 then (some ((0 : Int32), h5)) else (if xin x1 120 then (if vp_nar .char (((Int32.toUInt32 (xm_i h5 315 (Int32.toNatClampNeg x1))) % 65536).toInt32) = (((Int32.toUInt32 (xm_i h5 315 (Int32.toNatClampNeg x1))) % 65536).toInt32) then (some (((Int32.toUInt32 (xm_i h5 315 (Int32.toNatClampNeg x1))) % 65536).toInt32, h5)) else none) else none))))
theorem t_X11_written {ρ : Nat} {δ : Nat} {x1 : Int32} {h : xm_H} {w : Int32 × xm_H}  (hS : xS ρ δ h) (hf : f_X11_written x1 h = some w) : xm_Rn xX 2 250 [.ref 302, .int x1] h (xji w.1) w.2 ∧ xS ρ δ w.2 := by
  refine xt_mk (φ := fun h => xS ρ δ h) (M := xM_X11_written) (ls := [some (.ref 302), some (.int x1)]) rfl (Nat.le_of_ble_eq_true rfl) rfl (fun Q hQ => ?_)
  unfold f_X11_written at hf
  refine xw_G (pc' := 1) (st' := [.ref 302]) rfl rfl trivial ?_
  refine xw_G (pc' := 2) (st' := [.int x1, .ref 302]) rfl rfl trivial ?_
  refine xw_G (pc' := 3) (st' := [.long (Int32.toInt64 x1), .ref 302]) rfl rfl trivial ?_
  refine xw_G (pc' := 4) (st' := [.long (0 : Int64), .long (Int32.toInt64 x1), .ref 302]) rfl rfl trivial ?_
  refine xw_G (pc' := 5) (st' := [.ref 302, .long (0 : Int64), .long (Int32.toInt64 x1), .ref 302]) rfl rfl trivial ?_
  refine xw_G (pc' := 8) (st' := [.int (xm_i h 302 30), .long (0 : Int64), .long (Int32.toInt64 x1), .ref 302]) rfl rfl (xkf (xs_k hS rfl rfl : xm_k h 302 = (11, 0))) ?_
  refine xw_G (pc' := 9) (st' := [.int (1 : Int32), .int (xm_i h 302 30), .long (0 : Int64), .long (Int32.toInt64 x1), .ref 302]) rfl rfl trivial ?_
  refine xw_G (pc' := 10) (st' := [.int ((xm_i h 302 30) - (1 : Int32)), .long (0 : Int64), .long (Int32.toInt64 x1), .ref 302]) rfl rfl trivial ?_
  refine xw_G (pc' := 11) (st' := [.long (Int32.toInt64 ((xm_i h 302 30) - (1 : Int32))), .long (0 : Int64), .long (Int32.toInt64 x1), .ref 302]) rfl rfl trivial ?_
  refine xb_e hf (fun v1 h2 e3 hf => ?_)
  refine xw_S (v := some (.int v1)) rfl (Nat.le_of_ble_eq_true rfl) (Nat.le_of_ble_eq_true rfl) (xm_Rn_le (Nat.le_of_ble_eq_true rfl) (t_X11_between  hS e3).1) ?_
  have hS := (t_X11_between  hS e3).2
  show xm_W _ _ _ 14 _ [.int v1, .ref 302] _
  refine xb_e hf (fun v4 h5 e6 hf => ?_)
  refine xw_V (v := some (.int v4)) rfl rfl (xkf (xs_k hS rfl rfl : xm_k h2 302 = (11, 0))) (Nat.le_of_ble_eq_true rfl) (Nat.le_of_ble_eq_true rfl) (xm_Rn_le (Nat.le_of_ble_eq_true rfl) (t_X11_good  hS e6).1) ?_
  have hS := (t_X11_good  hS e6).2
  show xm_W _ _ _ 17 _ [.int v4] _
  refine xj_if_eq rfl hf (fun hc7 hf => ?_) (fun hc7 hf => ?_)
  · refine xw_G (pc' := 31) (st' := [.int (0 : Int32)]) rfl rfl trivial ?_
    exact xr_i (inj := xji) rfl rfl rfl rfl hf hQ hS
  · refine xw_G (pc' := 21) (st' := [.ref 302]) rfl rfl trivial ?_
    refine xw_gr rfl (xkf (xs_k hS rfl rfl : xm_k h5 302 = (11, 0))) (xs_r hS rfl) ?_
    refine xw_G (pc' := 25) (st' := [.int x1, .ref 315]) rfl rfl trivial ?_
    refine xg_e hf (fun hg8 hf => ?_)
    refine xa_ld (t := 100) (τ := 0) (v := .int (xm_i h5 315 (Int32.toNatClampNeg x1))) rfl rfl (xkf (xs_k hS rfl rfl : xm_k h5 315 = (100, 120))) (xkn (xs_k hS rfl rfl : xm_k h5 315 = (100, 120))) hg8 rfl ?_
    refine xw_G (pc' := 27) (st' := [.int (((Int32.toUInt32 (xm_i h5 315 (Int32.toNatClampNeg x1))) % 65536).toInt32)]) rfl rfl trivial ?_
    refine xw_G (pc' := 31) (st' := [.int (((Int32.toUInt32 (xm_i h5 315 (Int32.toNatClampNeg x1))) % 65536).toInt32)]) rfl rfl trivial ?_
    refine xg_e hf (fun hg9 hf => ?_)
    exact xr_i (inj := xji) rfl rfl (xnar_c hg9) rfl hf hQ hS
def f_L_law_c0 (N ρ δ : Nat) (rec : Int32 → xm_H → Option (Int32 × xm_H)) (c5 : Int32) (h : xm_H) : Option (Int32 × xm_H) := (if (xm_k h 0).1 = 100 then (if xin (c5 + (1 : Int32)) (xm_k h 0).2 then (if xin (c5 + (2 : Int32)) (xm_k h 0).2 then (if xin (c5 + (3 : Int32)) (xm_k h 0).2 then (if xin (c5 + (4 : Int32)) (xm_k h 0).2 then (if xin (c5 + (5 : Int32)) (xm_k h 0).2 then (xb (f_X10_feed N (xm_i h 0 (Int32.toNatClampNeg (c5 + (1 : Int32)))) (xm_i h 0 (Int32.toNatClampNeg (c5 + (2 : Int32)))) (xm_i h 0 (Int32.toNatClampNeg (c5 + (3 : Int32)))) (xm_i h 0 (Int32.toNatClampNeg (c5 + (4 : Int32)))) (xm_i h 0 (Int32.toNatClampNeg (c5 + (5 : Int32)))) h) fun v7 h8 => (if (xm_k h8 0).1 = 100 then (if xin (c5 + (1 : Int32)) (xm_k h8 0).2 then (if xin (c5 + (2 : Int32)) (xm_k h8 0).2 then (if xin (c5 + (3 : Int32)) (xm_k h8 0).2 then (if xin (c5 + (4 : Int32)) (xm_k h8 0).2 then (if xin (c5 + (5 : Int32)) (xm_k h8 0).2 then (xb (f_X11_feed N (xm_i h8 0 (Int32.toNatClampNeg (c5 + (1 : Int32)))) (xm_i h8 0 (Int32.toNatClampNeg (c5 + (2 : Int32)))) (xm_i h8 0 (Int32.toNatClampNeg (c5 + (3 : Int32)))) (xm_i h8 0 (Int32.toNatClampNeg (c5 + (4 : Int32)))) (xm_i h8 0 (Int32.toNatClampNeg (c5 + (5 : Int32)))) h8) fun v16 h17 => (if v7 = v16 then (rec (c5 + (6 : Int32)) h17) else (some ((0 : Int32), h17)))) else none) else none) else none) else none) else none) else none)) else none) else none) else none) else none) else none) else none)
def f_L_law_c1 (N ρ δ : Nat) (rec : Int32 → xm_H → Option (Int32 × xm_H)) (c5 : Int32) (h : xm_H) : Option (Int32 × xm_H) := (if (xm_k h 0).1 = 100 then (if xin (c5 + (1 : Int32)) (xm_k h 0).2 then (xb (f_L_load N ρ δ (xm_i h 0 (Int32.toNatClampNeg (c5 + (1 : Int32)))) h) fun v3 h4 => (if (xm_k h4 0).1 = 100 then (if xin (c5 + (1 : Int32)) (xm_k h4 0).2 then (xb (f_X11_load N (xm_i h4 0 (Int32.toNatClampNeg (c5 + (1 : Int32)))) h4) fun v8 h9 => (xb (f_X11_thrown h9) fun v11 h12 => (if v11 = v3 then (if v3 = 0 then (if (lg_cmp (xm_l h12 316 0) (Int32.toInt64 v8)) = 0 then (rec (c5 + (6 : Int32)) h12) else (some ((0 : Int32), h12))) else (rec (c5 + (6 : Int32)) h12)) else (some ((0 : Int32), h12))))) else none) else none)) else none) else none)
def f_L_law_c2 (N ρ δ : Nat) (rec : Int32 → xm_H → Option (Int32 × xm_H)) (c5 : Int32) (h : xm_H) : Option (Int32 × xm_H) := (xb (f_X10_errorKind h) fun v1 h2 => (xb (f_X11_errorKind h2) fun v4 h5 => (if v1 = v4 then (rec (c5 + (6 : Int32)) h5) else (some ((0 : Int32), h5)))))
def f_L_law_c3 (N ρ δ : Nat) (rec : Int32 → xm_H → Option (Int32 × xm_H)) (c5 : Int32) (h : xm_H) : Option (Int32 × xm_H) := (xb (f_X10_errorPosition h) fun v1 h2 => (xb (f_X11_errorPosition h2) fun v4 h5 => (if v1 = v4 then (rec (c5 + (6 : Int32)) h5) else (some ((0 : Int32), h5)))))
def f_L_law_c4 (N ρ δ : Nat) (rec : Int32 → xm_H → Option (Int32 × xm_H)) (c5 : Int32) (h : xm_H) : Option (Int32 × xm_H) := (xb (f_X10_campaigns ρ h) fun v1 h2 => (xb (f_X11_campaigns h2) fun v4 h5 => (if v1 = v4 then (rec (c5 + (6 : Int32)) h5) else (some ((0 : Int32), h5)))))
def f_L_law_c5 (N ρ δ : Nat) (rec : Int32 → xm_H → Option (Int32 × xm_H)) (c5 : Int32) (h : xm_H) : Option (Int32 × xm_H) := (xb (f_X10_tags ρ h) fun v1 h2 => (xb (f_X11_tags h2) fun v4 h5 => (if v1 = v4 then (rec (c5 + (6 : Int32)) h5) else (some ((0 : Int32), h5)))))
def f_L_law_c6 (N ρ δ : Nat) (rec : Int32 → xm_H → Option (Int32 × xm_H)) (c5 : Int32) (h : xm_H) : Option (Int32 × xm_H) := (xb (f_X10_slots ρ h) fun v1 h2 => (xb (f_X11_slots h2) fun v4 h5 => (if v1 = v4 then (rec (c5 + (6 : Int32)) h5) else (some ((0 : Int32), h5)))))
def f_L_law_c7 (N ρ δ : Nat) (rec : Int32 → xm_H → Option (Int32 × xm_H)) (c5 : Int32) (h : xm_H) : Option (Int32 × xm_H) := (if (xm_k h 0).1 = 100 then (if xin (c5 + (1 : Int32)) (xm_k h 0).2 then (xb (f_L_floor ρ (xm_i h 0 (Int32.toNatClampNeg (c5 + (1 : Int32)))) h) fun v3 h4 => (if (xm_k h4 0).1 = 100 then (if xin (c5 + (1 : Int32)) (xm_k h4 0).2 then (xb (f_X11_floor (xm_i h4 0 (Int32.toNatClampNeg (c5 + (1 : Int32)))) h4) fun v8 h9 => (xb (f_X11_thrown h9) fun v11 h12 => (if v11 = v3 then (if v3 = 0 then (if (lg_cmp (xm_l h12 316 0) (Int32.toInt64 v8)) = 0 then (rec (c5 + (6 : Int32)) h12) else (some ((0 : Int32), h12))) else (rec (c5 + (6 : Int32)) h12)) else (some ((0 : Int32), h12))))) else none) else none)) else none) else none)
def f_L_law_c8 (N ρ δ : Nat) (rec : Int32 → xm_H → Option (Int32 × xm_H)) (c5 : Int32) (h : xm_H) : Option (Int32 × xm_H) := (if (xm_k h 0).1 = 100 then (if xin (c5 + (1 : Int32)) (xm_k h 0).2 then (xb (f_L_bid ρ (xm_i h 0 (Int32.toNatClampNeg (c5 + (1 : Int32)))) h) fun v3 h4 => (if (xm_k h4 0).1 = 100 then (if xin (c5 + (1 : Int32)) (xm_k h4 0).2 then (xb (f_X11_bid (xm_i h4 0 (Int32.toNatClampNeg (c5 + (1 : Int32)))) h4) fun v8 h9 => (xb (f_X11_thrown h9) fun v11 h12 => (if v11 = v3 then (if v3 = 0 then (if (lg_cmp (xm_l h12 316 0) (Int32.toInt64 v8)) = 0 then (rec (c5 + (6 : Int32)) h12) else (some ((0 : Int32), h12))) else (rec (c5 + (6 : Int32)) h12)) else (some ((0 : Int32), h12))))) else none) else none)) else none) else none)
def f_L_law_c9 (N ρ δ : Nat) (rec : Int32 → xm_H → Option (Int32 × xm_H)) (c5 : Int32) (h : xm_H) : Option (Int32 × xm_H) := (if (xm_k h 0).1 = 100 then (if xin (c5 + (1 : Int32)) (xm_k h 0).2 then (xb (f_L_effectiveBid ρ (xm_i h 0 (Int32.toNatClampNeg (c5 + (1 : Int32)))) h) fun v3 h4 => (if (xm_k h4 0).1 = 100 then (if xin (c5 + (1 : Int32)) (xm_k h4 0).2 then (xb (f_X11_effectiveBid (xm_i h4 0 (Int32.toNatClampNeg (c5 + (1 : Int32)))) h4) fun v8 h9 => (xb (f_X11_thrown h9) fun v11 h12 => (if v11 = v3 then (if v3 = 0 then (if (lg_cmp (xm_l h12 316 0) (Int32.toInt64 v8)) = 0 then (rec (c5 + (6 : Int32)) h12) else (some ((0 : Int32), h12))) else (rec (c5 + (6 : Int32)) h12)) else (some ((0 : Int32), h12))))) else none) else none)) else none) else none)
def f_L_law_c10 (N ρ δ : Nat) (rec : Int32 → xm_H → Option (Int32 × xm_H)) (c5 : Int32) (h : xm_H) : Option (Int32 × xm_H) := (if (xm_k h 0).1 = 100 then (if xin (c5 + (1 : Int32)) (xm_k h 0).2 then (xb (f_L_multiplier ρ (xm_i h 0 (Int32.toNatClampNeg (c5 + (1 : Int32)))) h) fun v3 h4 => (if (xm_k h4 0).1 = 100 then (if xin (c5 + (1 : Int32)) (xm_k h4 0).2 then (xb (f_X11_multiplier (xm_i h4 0 (Int32.toNatClampNeg (c5 + (1 : Int32)))) h4) fun v8 h9 => (xb (f_X11_thrown h9) fun v11 h12 => (if v11 = v3 then (if v3 = 0 then (if (lg_cmp (xm_l h12 316 0) (Int32.toInt64 v8)) = 0 then (rec (c5 + (6 : Int32)) h12) else (some ((0 : Int32), h12))) else (rec (c5 + (6 : Int32)) h12)) else (some ((0 : Int32), h12))))) else none) else none)) else none) else none)
def f_L_law_c11 (N ρ δ : Nat) (rec : Int32 → xm_H → Option (Int32 × xm_H)) (c5 : Int32) (h : xm_H) : Option (Int32 × xm_H) := (if (xm_k h 0).1 = 100 then (if xin (c5 + (1 : Int32)) (xm_k h 0).2 then (xb (f_L_budget ρ (xm_i h 0 (Int32.toNatClampNeg (c5 + (1 : Int32)))) h) fun v3 h4 => (if (xm_k h4 0).1 = 100 then (if xin (c5 + (1 : Int32)) (xm_k h4 0).2 then (xb (f_X11_budget (xm_i h4 0 (Int32.toNatClampNeg (c5 + (1 : Int32)))) h4) fun v8 h9 => (xb (f_X11_thrown h9) fun v11 h12 => (if v11 = v3 then (if v3 = 0 then (if (lg_cmp (xm_l h12 316 0) (Int32.toInt64 v8)) = 0 then (rec (c5 + (6 : Int32)) h12) else (some ((0 : Int32), h12))) else (rec (c5 + (6 : Int32)) h12)) else (some ((0 : Int32), h12))))) else none) else none)) else none) else none)
def f_L_law_c12 (N ρ δ : Nat) (rec : Int32 → xm_H → Option (Int32 × xm_H)) (c5 : Int32) (h : xm_H) : Option (Int32 × xm_H) := (if (xm_k h 0).1 = 100 then (if xin (c5 + (1 : Int32)) (xm_k h 0).2 then (xb (f_L_spent ρ (xm_i h 0 (Int32.toNatClampNeg (c5 + (1 : Int32)))) h) fun v3 h4 => (if (xm_k h4 0).1 = 100 then (if xin (c5 + (1 : Int32)) (xm_k h4 0).2 then (xb (f_X11_spent (xm_i h4 0 (Int32.toNatClampNeg (c5 + (1 : Int32)))) h4) fun v8 h9 => (xb (f_X11_thrown h9) fun v11 h12 => (if v11 = v3 then (if v3 = 0 then (if (lg_cmp (xm_l h12 316 0) (Int32.toInt64 v8)) = 0 then (rec (c5 + (6 : Int32)) h12) else (some ((0 : Int32), h12))) else (rec (c5 + (6 : Int32)) h12)) else (some ((0 : Int32), h12))))) else none) else none)) else none) else none)
def f_L_law_c13 (N ρ δ : Nat) (rec : Int32 → xm_H → Option (Int32 × xm_H)) (c5 : Int32) (h : xm_H) : Option (Int32 × xm_H) := (if (xm_k h 0).1 = 100 then (if xin (c5 + (1 : Int32)) (xm_k h 0).2 then (xb (f_L_plan ρ (xm_i h 0 (Int32.toNatClampNeg (c5 + (1 : Int32)))) h) fun v3 h4 => (if (xm_k h4 0).1 = 100 then (if xin (c5 + (1 : Int32)) (xm_k h4 0).2 then (xb (f_X11_plan (xm_i h4 0 (Int32.toNatClampNeg (c5 + (1 : Int32)))) h4) fun v8 h9 => (xb (f_X11_thrown h9) fun v11 h12 => (if v11 = v3 then (if v3 = 0 then (if (lg_cmp (xm_l h12 316 0) (Int32.toInt64 v8)) = 0 then (rec (c5 + (6 : Int32)) h12) else (some ((0 : Int32), h12))) else (rec (c5 + (6 : Int32)) h12)) else (some ((0 : Int32), h12))))) else none) else none)) else none) else none)
def f_L_law_c14 (N ρ δ : Nat) (rec : Int32 → xm_H → Option (Int32 × xm_H)) (c5 : Int32) (h : xm_H) : Option (Int32 × xm_H) := (if (xm_k h 0).1 = 100 then (if xin (c5 + (1 : Int32)) (xm_k h 0).2 then (xb (f_L_mode ρ (xm_i h 0 (Int32.toNatClampNeg (c5 + (1 : Int32)))) h) fun v3 h4 => (if (xm_k h4 0).1 = 100 then (if xin (c5 + (1 : Int32)) (xm_k h4 0).2 then (xb (f_X11_mode (xm_i h4 0 (Int32.toNatClampNeg (c5 + (1 : Int32)))) h4) fun v8 h9 => (xb (f_X11_thrown h9) fun v11 h12 => (if v11 = v3 then (if v3 = 0 then (if (lg_cmp (xm_l h12 316 0) (Int32.toInt64 v8)) = 0 then (rec (c5 + (6 : Int32)) h12) else (some ((0 : Int32), h12))) else (rec (c5 + (6 : Int32)) h12)) else (some ((0 : Int32), h12))))) else none) else none)) else none) else none)
def f_L_law_c15 (N ρ δ : Nat) (rec : Int32 → xm_H → Option (Int32 × xm_H)) (c5 : Int32) (h : xm_H) : Option (Int32 × xm_H) := (xb (f_X10_tick h) fun v1 h2 => (xb (f_X11_tick h2) fun v4 h5 => (if v1 = v4 then (rec (c5 + (6 : Int32)) h5) else (some ((0 : Int32), h5)))))
def f_L_law_c16 (N ρ δ : Nat) (rec : Int32 → xm_H → Option (Int32 × xm_H)) (c5 : Int32) (h : xm_H) : Option (Int32 × xm_H) := (if (xm_k h 0).1 = 100 then (if xin (c5 + (1 : Int32)) (xm_k h 0).2 then (if xin (c5 + (2 : Int32)) (xm_k h 0).2 then (if xin (c5 + (3 : Int32)) (xm_k h 0).2 then (xb (f_L_refusal N ρ (xm_i h 0 (Int32.toNatClampNeg (c5 + (1 : Int32)))) (xm_i h 0 (Int32.toNatClampNeg (c5 + (2 : Int32)))) (xm_i h 0 (Int32.toNatClampNeg (c5 + (3 : Int32)))) h) fun v5 h6 => (if (xm_k h6 0).1 = 100 then (if xin (c5 + (1 : Int32)) (xm_k h6 0).2 then (if xin (c5 + (2 : Int32)) (xm_k h6 0).2 then (if xin (c5 + (3 : Int32)) (xm_k h6 0).2 then (xb (f_X11_refusal N (xm_i h6 0 (Int32.toNatClampNeg (c5 + (1 : Int32)))) (xm_i h6 0 (Int32.toNatClampNeg (c5 + (2 : Int32)))) (xm_i h6 0 (Int32.toNatClampNeg (c5 + (3 : Int32)))) h6) fun v12 h13 => (xb (f_X11_thrown h13) fun v15 h16 => (if v15 = v5 then (if v5 = 0 then (if (lg_cmp (xm_l h16 316 0) (Int32.toInt64 v12)) = 0 then (rec (c5 + (6 : Int32)) h16) else (some ((0 : Int32), h16))) else (rec (c5 + (6 : Int32)) h16)) else (some ((0 : Int32), h16))))) else none) else none) else none) else none)) else none) else none) else none) else none)
def f_L_law_c17 (N ρ δ : Nat) (rec : Int32 → xm_H → Option (Int32 × xm_H)) (c5 : Int32) (h : xm_H) : Option (Int32 × xm_H) := (if (xm_k h 0).1 = 100 then (if xin (c5 + (1 : Int32)) (xm_k h 0).2 then (if xin (c5 + (2 : Int32)) (xm_k h 0).2 then (if xin (c5 + (3 : Int32)) (xm_k h 0).2 then (xb (f_L_ranked N ρ (xm_i h 0 (Int32.toNatClampNeg (c5 + (1 : Int32)))) (xm_i h 0 (Int32.toNatClampNeg (c5 + (2 : Int32)))) (xm_i h 0 (Int32.toNatClampNeg (c5 + (3 : Int32)))) h) fun v5 h6 => (if (xm_k h6 0).1 = 100 then (if xin (c5 + (1 : Int32)) (xm_k h6 0).2 then (if xin (c5 + (2 : Int32)) (xm_k h6 0).2 then (if xin (c5 + (3 : Int32)) (xm_k h6 0).2 then (xb (f_X11_ranked N (xm_i h6 0 (Int32.toNatClampNeg (c5 + (1 : Int32)))) (xm_i h6 0 (Int32.toNatClampNeg (c5 + (2 : Int32)))) (xm_i h6 0 (Int32.toNatClampNeg (c5 + (3 : Int32)))) h6) fun v12 h13 => (xb (f_X11_thrown h13) fun v15 h16 => (if v15 = v5 then (if v5 = 0 then (if (lg_cmp (xm_l h16 316 0) (Int32.toInt64 v12)) = 0 then (rec (c5 + (6 : Int32)) h16) else (some ((0 : Int32), h16))) else (rec (c5 + (6 : Int32)) h16)) else (some ((0 : Int32), h16))))) else none) else none) else none) else none)) else none) else none) else none) else none)
def f_L_law_c18 (N ρ δ : Nat) (rec : Int32 → xm_H → Option (Int32 × xm_H)) (c5 : Int32) (h : xm_H) : Option (Int32 × xm_H) := (if (xm_k h 0).1 = 100 then (if xin (c5 + (1 : Int32)) (xm_k h 0).2 then (if xin (c5 + (2 : Int32)) (xm_k h 0).2 then (if xin (c5 + (3 : Int32)) (xm_k h 0).2 then (xb (f_L_winner N ρ (xm_i h 0 (Int32.toNatClampNeg (c5 + (1 : Int32)))) (xm_i h 0 (Int32.toNatClampNeg (c5 + (2 : Int32)))) (xm_i h 0 (Int32.toNatClampNeg (c5 + (3 : Int32)))) h) fun v5 h6 => (if (xm_k h6 0).1 = 100 then (if xin (c5 + (1 : Int32)) (xm_k h6 0).2 then (if xin (c5 + (2 : Int32)) (xm_k h6 0).2 then (if xin (c5 + (3 : Int32)) (xm_k h6 0).2 then (xb (f_X11_winner N (xm_i h6 0 (Int32.toNatClampNeg (c5 + (1 : Int32)))) (xm_i h6 0 (Int32.toNatClampNeg (c5 + (2 : Int32)))) (xm_i h6 0 (Int32.toNatClampNeg (c5 + (3 : Int32)))) h6) fun v12 h13 => (xb (f_X11_thrown h13) fun v15 h16 => (if v15 = v5 then (if v5 = 0 then (if (lg_cmp (xm_l h16 316 0) (Int32.toInt64 v12)) = 0 then (rec (c5 + (6 : Int32)) h16) else (some ((0 : Int32), h16))) else (rec (c5 + (6 : Int32)) h16)) else (some ((0 : Int32), h16))))) else none) else none) else none) else none)) else none) else none) else none) else none)
def f_L_law_c19 (N ρ δ : Nat) (rec : Int32 → xm_H → Option (Int32 × xm_H)) (c5 : Int32) (h : xm_H) : Option (Int32 × xm_H) := (if (xm_k h 0).1 = 100 then (if xin (c5 + (1 : Int32)) (xm_k h 0).2 then (if xin (c5 + (2 : Int32)) (xm_k h 0).2 then (if xin (c5 + (3 : Int32)) (xm_k h 0).2 then (xb (f_L_price N ρ (xm_i h 0 (Int32.toNatClampNeg (c5 + (1 : Int32)))) (xm_i h 0 (Int32.toNatClampNeg (c5 + (2 : Int32)))) (xm_i h 0 (Int32.toNatClampNeg (c5 + (3 : Int32)))) h) fun v5 h6 => (if (xm_k h6 0).1 = 100 then (if xin (c5 + (1 : Int32)) (xm_k h6 0).2 then (if xin (c5 + (2 : Int32)) (xm_k h6 0).2 then (if xin (c5 + (3 : Int32)) (xm_k h6 0).2 then (xb (f_X11_price N (xm_i h6 0 (Int32.toNatClampNeg (c5 + (1 : Int32)))) (xm_i h6 0 (Int32.toNatClampNeg (c5 + (2 : Int32)))) (xm_i h6 0 (Int32.toNatClampNeg (c5 + (3 : Int32)))) h6) fun v12 h13 => (xb (f_X11_thrown h13) fun v15 h16 => (if v15 = v5 then (if v5 = 0 then (if (lg_cmp (xm_l h16 316 0) (Int32.toInt64 v12)) = 0 then (rec (c5 + (6 : Int32)) h16) else (some ((0 : Int32), h16))) else (rec (c5 + (6 : Int32)) h16)) else (some ((0 : Int32), h16))))) else none) else none) else none) else none)) else none) else none) else none) else none)
def f_L_law_c20 (N ρ δ : Nat) (rec : Int32 → xm_H → Option (Int32 × xm_H)) (c5 : Int32) (h : xm_H) : Option (Int32 × xm_H) := (if (xm_k h 0).1 = 100 then (if xin (c5 + (1 : Int32)) (xm_k h 0).2 then (if xin (c5 + (2 : Int32)) (xm_k h 0).2 then (if xin (c5 + (3 : Int32)) (xm_k h 0).2 then (if xin (c5 + (4 : Int32)) (xm_k h 0).2 then (xb (f_L_leastBid N ρ (xm_i h 0 (Int32.toNatClampNeg (c5 + (1 : Int32)))) (xm_i h 0 (Int32.toNatClampNeg (c5 + (2 : Int32)))) (xm_i h 0 (Int32.toNatClampNeg (c5 + (3 : Int32)))) (xm_i h 0 (Int32.toNatClampNeg (c5 + (4 : Int32)))) h) fun v6 h7 => (if (xm_k h7 0).1 = 100 then (if xin (c5 + (1 : Int32)) (xm_k h7 0).2 then (if xin (c5 + (2 : Int32)) (xm_k h7 0).2 then (if xin (c5 + (3 : Int32)) (xm_k h7 0).2 then (if xin (c5 + (4 : Int32)) (xm_k h7 0).2 then (xb (f_X11_leastBid N (xm_i h7 0 (Int32.toNatClampNeg (c5 + (1 : Int32)))) (xm_i h7 0 (Int32.toNatClampNeg (c5 + (2 : Int32)))) (xm_i h7 0 (Int32.toNatClampNeg (c5 + (3 : Int32)))) (xm_i h7 0 (Int32.toNatClampNeg (c5 + (4 : Int32)))) h7) fun v14 h15 => (xb (f_X11_thrown h15) fun v17 h18 => (if v17 = v6 then (if v6 = 0 then (if (lg_cmp (xm_l h18 316 0) (Int32.toInt64 v14)) = 0 then (rec (c5 + (6 : Int32)) h18) else (some ((0 : Int32), h18))) else (rec (c5 + (6 : Int32)) h18)) else (some ((0 : Int32), h18))))) else none) else none) else none) else none) else none)) else none) else none) else none) else none) else none)
def f_L_law_c21 (N ρ δ : Nat) (rec : Int32 → xm_H → Option (Int32 × xm_H)) (c5 : Int32) (h : xm_H) : Option (Int32 × xm_H) := (if (xm_k h 0).1 = 100 then (if xin (c5 + (1 : Int32)) (xm_k h 0).2 then (if xin (c5 + (2 : Int32)) (xm_k h 0).2 then (if xin (c5 + (3 : Int32)) (xm_k h 0).2 then (xb (f_L_bestFloor N ρ (xm_i h 0 (Int32.toNatClampNeg (c5 + (1 : Int32)))) (xm_i h 0 (Int32.toNatClampNeg (c5 + (2 : Int32)))) (xm_i h 0 (Int32.toNatClampNeg (c5 + (3 : Int32)))) h) fun v5 h6 => (if (xm_k h6 0).1 = 100 then (if xin (c5 + (1 : Int32)) (xm_k h6 0).2 then (if xin (c5 + (2 : Int32)) (xm_k h6 0).2 then (if xin (c5 + (3 : Int32)) (xm_k h6 0).2 then (xb (f_X11_bestFloor N (xm_i h6 0 (Int32.toNatClampNeg (c5 + (1 : Int32)))) (xm_i h6 0 (Int32.toNatClampNeg (c5 + (2 : Int32)))) (xm_i h6 0 (Int32.toNatClampNeg (c5 + (3 : Int32)))) h6) fun v12 h13 => (xb (f_X11_thrown h13) fun v15 h16 => (if v15 = v5 then (if v5 = 0 then (if (lg_cmp (xm_l h16 316 0) (Int32.toInt64 v12)) = 0 then (rec (c5 + (6 : Int32)) h16) else (some ((0 : Int32), h16))) else (rec (c5 + (6 : Int32)) h16)) else (some ((0 : Int32), h16))))) else none) else none) else none) else none)) else none) else none) else none) else none)
def f_L_law_c22 (N ρ δ : Nat) (rec : Int32 → xm_H → Option (Int32 × xm_H)) (c5 : Int32) (h : xm_H) : Option (Int32 × xm_H) := (if (xm_k h 0).1 = 100 then (if xin (c5 + (1 : Int32)) (xm_k h 0).2 then (if xin (c5 + (2 : Int32)) (xm_k h 0).2 then (if xin (c5 + (3 : Int32)) (xm_k h 0).2 then (xb (f_L_revenueAfter N ρ (xm_i h 0 (Int32.toNatClampNeg (c5 + (1 : Int32)))) (xm_i h 0 (Int32.toNatClampNeg (c5 + (2 : Int32)))) (xm_i h 0 (Int32.toNatClampNeg (c5 + (3 : Int32)))) h) fun v5 h6 => (if (xm_k h6 0).1 = 100 then (if xin (c5 + (1 : Int32)) (xm_k h6 0).2 then (if xin (c5 + (2 : Int32)) (xm_k h6 0).2 then (if xin (c5 + (3 : Int32)) (xm_k h6 0).2 then (xb (f_X11_revenueAfter N (xm_i h6 0 (Int32.toNatClampNeg (c5 + (1 : Int32)))) (xm_i h6 0 (Int32.toNatClampNeg (c5 + (2 : Int32)))) (xm_i h6 0 (Int32.toNatClampNeg (c5 + (3 : Int32)))) h6) fun v12 h13 => (xb (f_X11_thrown h13) fun v15 h16 => (if v15 = v5 then (if v5 = 0 then (if (lg_cmp (xm_l h16 316 0) (Int32.toInt64 v12)) = 0 then (rec (c5 + (6 : Int32)) h16) else (some ((0 : Int32), h16))) else (rec (c5 + (6 : Int32)) h16)) else (some ((0 : Int32), h16))))) else none) else none) else none) else none)) else none) else none) else none) else none)
def f_L_law_c23 (N ρ δ : Nat) (rec : Int32 → xm_H → Option (Int32 × xm_H)) (c5 : Int32) (h : xm_H) : Option (Int32 × xm_H) := (if (xm_k h 0).1 = 100 then (if xin (c5 + (1 : Int32)) (xm_k h 0).2 then (if xin (c5 + (2 : Int32)) (xm_k h 0).2 then (if xin (c5 + (3 : Int32)) (xm_k h 0).2 then (if xin (c5 + (4 : Int32)) (xm_k h 0).2 then (xb (f_L_multiplierAfter N ρ (xm_i h 0 (Int32.toNatClampNeg (c5 + (1 : Int32)))) (xm_i h 0 (Int32.toNatClampNeg (c5 + (2 : Int32)))) (xm_i h 0 (Int32.toNatClampNeg (c5 + (3 : Int32)))) (xm_i h 0 (Int32.toNatClampNeg (c5 + (4 : Int32)))) h) fun v6 h7 => (if (xm_k h7 0).1 = 100 then (if xin (c5 + (1 : Int32)) (xm_k h7 0).2 then (if xin (c5 + (2 : Int32)) (xm_k h7 0).2 then (if xin (c5 + (3 : Int32)) (xm_k h7 0).2 then (if xin (c5 + (4 : Int32)) (xm_k h7 0).2 then (xb (f_X11_multiplierAfter N (xm_i h7 0 (Int32.toNatClampNeg (c5 + (1 : Int32)))) (xm_i h7 0 (Int32.toNatClampNeg (c5 + (2 : Int32)))) (xm_i h7 0 (Int32.toNatClampNeg (c5 + (3 : Int32)))) (xm_i h7 0 (Int32.toNatClampNeg (c5 + (4 : Int32)))) h7) fun v14 h15 => (xb (f_X11_thrown h15) fun v17 h18 => (if v17 = v6 then (if v6 = 0 then (if (lg_cmp (xm_l h18 316 0) (Int32.toInt64 v14)) = 0 then (rec (c5 + (6 : Int32)) h18) else (some ((0 : Int32), h18))) else (rec (c5 + (6 : Int32)) h18)) else (some ((0 : Int32), h18))))) else none) else none) else none) else none) else none)) else none) else none) else none) else none) else none)
def f_L_law_c24 (N ρ δ : Nat) (rec : Int32 → xm_H → Option (Int32 × xm_H)) (c5 : Int32) (h : xm_H) : Option (Int32 × xm_H) := (if (xm_k h 0).1 = 100 then (if xin (c5 + (1 : Int32)) (xm_k h 0).2 then (if xin (c5 + (2 : Int32)) (xm_k h 0).2 then (if xin (c5 + (3 : Int32)) (xm_k h 0).2 then (if xin (c5 + (4 : Int32)) (xm_k h 0).2 then (xb (f_L_bestMode N ρ (xm_i h 0 (Int32.toNatClampNeg (c5 + (1 : Int32)))) (xm_i h 0 (Int32.toNatClampNeg (c5 + (2 : Int32)))) (xm_i h 0 (Int32.toNatClampNeg (c5 + (3 : Int32)))) (xm_i h 0 (Int32.toNatClampNeg (c5 + (4 : Int32)))) h) fun v6 h7 => (if (xm_k h7 0).1 = 100 then (if xin (c5 + (1 : Int32)) (xm_k h7 0).2 then (if xin (c5 + (2 : Int32)) (xm_k h7 0).2 then (if xin (c5 + (3 : Int32)) (xm_k h7 0).2 then (if xin (c5 + (4 : Int32)) (xm_k h7 0).2 then (xb (f_X11_bestMode N (xm_i h7 0 (Int32.toNatClampNeg (c5 + (1 : Int32)))) (xm_i h7 0 (Int32.toNatClampNeg (c5 + (2 : Int32)))) (xm_i h7 0 (Int32.toNatClampNeg (c5 + (3 : Int32)))) (xm_i h7 0 (Int32.toNatClampNeg (c5 + (4 : Int32)))) h7) fun v14 h15 => (xb (f_X11_thrown h15) fun v17 h18 => (if v17 = v6 then (if v6 = 0 then (if (lg_cmp (xm_l h18 316 0) (Int32.toInt64 v14)) = 0 then (rec (c5 + (6 : Int32)) h18) else (some ((0 : Int32), h18))) else (rec (c5 + (6 : Int32)) h18)) else (some ((0 : Int32), h18))))) else none) else none) else none) else none) else none)) else none) else none) else none) else none) else none)
def f_L_law_c25 (N ρ δ : Nat) (rec : Int32 → xm_H → Option (Int32 × xm_H)) (c5 : Int32) (h : xm_H) : Option (Int32 × xm_H) := (if (xm_k h 0).1 = 100 then (if xin (c5 + (1 : Int32)) (xm_k h 0).2 then (if xin (c5 + (2 : Int32)) (xm_k h 0).2 then (if xin (c5 + (3 : Int32)) (xm_k h 0).2 then (xb (f_L_request N ρ (xm_i h 0 (Int32.toNatClampNeg (c5 + (1 : Int32)))) (xm_i h 0 (Int32.toNatClampNeg (c5 + (2 : Int32)))) (xm_i h 0 (Int32.toNatClampNeg (c5 + (3 : Int32)))) h) fun v5 h6 => (if (xm_k h6 0).1 = 100 then (if xin (c5 + (1 : Int32)) (xm_k h6 0).2 then (if xin (c5 + (2 : Int32)) (xm_k h6 0).2 then (if xin (c5 + (3 : Int32)) (xm_k h6 0).2 then (xb (f_X11_request N (xm_i h6 0 (Int32.toNatClampNeg (c5 + (1 : Int32)))) (xm_i h6 0 (Int32.toNatClampNeg (c5 + (2 : Int32)))) (xm_i h6 0 (Int32.toNatClampNeg (c5 + (3 : Int32)))) h6) fun v12 h13 => (xb (f_X11_thrown h13) fun v15 h16 => (if v15 = v5 then (if v5 = 0 then (if (lg_cmp (xm_l h16 316 0) (Int32.toInt64 v12)) = 0 then (rec (c5 + (6 : Int32)) h16) else (some ((0 : Int32), h16))) else (rec (c5 + (6 : Int32)) h16)) else (some ((0 : Int32), h16))))) else none) else none) else none) else none)) else none) else none) else none) else none)
def f_L_law_c26 (N ρ δ : Nat) (rec : Int32 → xm_H → Option (Int32 × xm_H)) (c5 : Int32) (h : xm_H) : Option (Int32 × xm_H) := (if (xm_k h 0).1 = 100 then (if xin (c5 + (1 : Int32)) (xm_k h 0).2 then (xb (f_L_pass N ρ (xm_i h 0 (Int32.toNatClampNeg (c5 + (1 : Int32)))) h) fun v3 h4 => (if (xm_k h4 0).1 = 100 then (if xin (c5 + (1 : Int32)) (xm_k h4 0).2 then (xb (f_X11_pass N (xm_i h4 0 (Int32.toNatClampNeg (c5 + (1 : Int32)))) h4) fun v8 h9 => (xb (f_X11_thrown h9) fun v11 h12 => (if v11 = v3 then (if v3 = 0 then (if (lg_cmp (xm_l h12 316 0) (Int32.toInt64 v8)) = 0 then (rec (c5 + (6 : Int32)) h12) else (some ((0 : Int32), h12))) else (rec (c5 + (6 : Int32)) h12)) else (some ((0 : Int32), h12))))) else none) else none)) else none) else none)
def f_L_law_c27 (N ρ δ : Nat) (rec : Int32 → xm_H → Option (Int32 × xm_H)) (c5 : Int32) (h : xm_H) : Option (Int32 × xm_H) := (if (xm_k h 0).1 = 100 then (if xin (c5 + (1 : Int32)) (xm_k h 0).2 then (if xin (c5 + (2 : Int32)) (xm_k h 0).2 then (xb (f_L_convert N ρ (xm_i h 0 (Int32.toNatClampNeg (c5 + (1 : Int32)))) (xm_i h 0 (Int32.toNatClampNeg (c5 + (2 : Int32)))) h) fun v4 h5 => (if (xm_k h5 0).1 = 100 then (if xin (c5 + (1 : Int32)) (xm_k h5 0).2 then (if xin (c5 + (2 : Int32)) (xm_k h5 0).2 then (xb (f_X11_convert N (xm_i h5 0 (Int32.toNatClampNeg (c5 + (1 : Int32)))) (xm_i h5 0 (Int32.toNatClampNeg (c5 + (2 : Int32)))) h5) fun v10 h11 => (xb (f_X11_thrown h11) fun v13 h14 => (if v13 = v4 then (if v4 = 0 then (if (lg_cmp (xm_l h14 316 0) (Int32.toInt64 v10)) = 0 then (rec (c5 + (6 : Int32)) h14) else (some ((0 : Int32), h14))) else (rec (c5 + (6 : Int32)) h14)) else (some ((0 : Int32), h14))))) else none) else none) else none)) else none) else none) else none)
def f_L_law_c28 (N ρ δ : Nat) (rec : Int32 → xm_H → Option (Int32 × xm_H)) (c5 : Int32) (h : xm_H) : Option (Int32 × xm_H) := (if (xm_k h 0).1 = 100 then (if xin (c5 + (1 : Int32)) (xm_k h 0).2 then (xb (f_L_pause ρ (xm_i h 0 (Int32.toNatClampNeg (c5 + (1 : Int32)))) h) fun v3 h4 => (if (xm_k h4 0).1 = 100 then (if xin (c5 + (1 : Int32)) (xm_k h4 0).2 then (xb (f_X11_pause N (xm_i h4 0 (Int32.toNatClampNeg (c5 + (1 : Int32)))) h4) fun v8 h9 => (xb (f_X11_thrown h9) fun v11 h12 => (if v11 = v3 then (if v3 = 0 then (if (lg_cmp (xm_l h12 316 0) (Int32.toInt64 v8)) = 0 then (rec (c5 + (6 : Int32)) h12) else (some ((0 : Int32), h12))) else (rec (c5 + (6 : Int32)) h12)) else (some ((0 : Int32), h12))))) else none) else none)) else none) else none)
def f_L_law_c29 (N ρ δ : Nat) (rec : Int32 → xm_H → Option (Int32 × xm_H)) (c5 : Int32) (h : xm_H) : Option (Int32 × xm_H) := (if (xm_k h 0).1 = 100 then (if xin (c5 + (1 : Int32)) (xm_k h 0).2 then (xb (f_L_resume ρ (xm_i h 0 (Int32.toNatClampNeg (c5 + (1 : Int32)))) h) fun v3 h4 => (if (xm_k h4 0).1 = 100 then (if xin (c5 + (1 : Int32)) (xm_k h4 0).2 then (xb (f_X11_resume N (xm_i h4 0 (Int32.toNatClampNeg (c5 + (1 : Int32)))) h4) fun v8 h9 => (xb (f_X11_thrown h9) fun v11 h12 => (if v11 = v3 then (if v3 = 0 then (if (lg_cmp (xm_l h12 316 0) (Int32.toInt64 v8)) = 0 then (rec (c5 + (6 : Int32)) h12) else (some ((0 : Int32), h12))) else (rec (c5 + (6 : Int32)) h12)) else (some ((0 : Int32), h12))))) else none) else none)) else none) else none)
def f_L_law_c30 (N ρ δ : Nat) (rec : Int32 → xm_H → Option (Int32 × xm_H)) (c5 : Int32) (h : xm_H) : Option (Int32 × xm_H) := (if (xm_k h 0).1 = 100 then (if xin (c5 + (1 : Int32)) (xm_k h 0).2 then (if xin (c5 + (2 : Int32)) (xm_k h 0).2 then (xb (f_L_setBid ρ (xm_i h 0 (Int32.toNatClampNeg (c5 + (1 : Int32)))) (xm_i h 0 (Int32.toNatClampNeg (c5 + (2 : Int32)))) h) fun v4 h5 => (if (xm_k h5 0).1 = 100 then (if xin (c5 + (1 : Int32)) (xm_k h5 0).2 then (if xin (c5 + (2 : Int32)) (xm_k h5 0).2 then (xb (f_X11_setBid N (xm_i h5 0 (Int32.toNatClampNeg (c5 + (1 : Int32)))) (xm_i h5 0 (Int32.toNatClampNeg (c5 + (2 : Int32)))) h5) fun v10 h11 => (xb (f_X11_thrown h11) fun v13 h14 => (if v13 = v4 then (if v4 = 0 then (if (lg_cmp (xm_l h14 316 0) (Int32.toInt64 v10)) = 0 then (rec (c5 + (6 : Int32)) h14) else (some ((0 : Int32), h14))) else (rec (c5 + (6 : Int32)) h14)) else (some ((0 : Int32), h14))))) else none) else none) else none)) else none) else none) else none)
def f_L_law_c31 (N ρ δ : Nat) (rec : Int32 → xm_H → Option (Int32 × xm_H)) (c5 : Int32) (h : xm_H) : Option (Int32 × xm_H) := (if (xm_k h 0).1 = 100 then (if xin (c5 + (1 : Int32)) (xm_k h 0).2 then (if xin (c5 + (2 : Int32)) (xm_k h 0).2 then (xb (f_L_setBudget ρ (xm_i h 0 (Int32.toNatClampNeg (c5 + (1 : Int32)))) (xm_i h 0 (Int32.toNatClampNeg (c5 + (2 : Int32)))) h) fun v4 h5 => (if (xm_k h5 0).1 = 100 then (if xin (c5 + (1 : Int32)) (xm_k h5 0).2 then (if xin (c5 + (2 : Int32)) (xm_k h5 0).2 then (xb (f_X11_setBudget N (xm_i h5 0 (Int32.toNatClampNeg (c5 + (1 : Int32)))) (xm_i h5 0 (Int32.toNatClampNeg (c5 + (2 : Int32)))) h5) fun v10 h11 => (xb (f_X11_thrown h11) fun v13 h14 => (if v13 = v4 then (if v4 = 0 then (if (lg_cmp (xm_l h14 316 0) (Int32.toInt64 v10)) = 0 then (rec (c5 + (6 : Int32)) h14) else (some ((0 : Int32), h14))) else (rec (c5 + (6 : Int32)) h14)) else (some ((0 : Int32), h14))))) else none) else none) else none)) else none) else none) else none)
def f_L_law_c32 (N ρ δ : Nat) (rec : Int32 → xm_H → Option (Int32 × xm_H)) (c5 : Int32) (h : xm_H) : Option (Int32 × xm_H) := (if (xm_k h 0).1 = 100 then (if xin (c5 + (1 : Int32)) (xm_k h 0).2 then (if xin (c5 + (2 : Int32)) (xm_k h 0).2 then (xb (f_L_setMode ρ (xm_i h 0 (Int32.toNatClampNeg (c5 + (1 : Int32)))) (xm_i h 0 (Int32.toNatClampNeg (c5 + (2 : Int32)))) h) fun v4 h5 => (if (xm_k h5 0).1 = 100 then (if xin (c5 + (1 : Int32)) (xm_k h5 0).2 then (if xin (c5 + (2 : Int32)) (xm_k h5 0).2 then (xb (f_X11_setMode N (xm_i h5 0 (Int32.toNatClampNeg (c5 + (1 : Int32)))) (xm_i h5 0 (Int32.toNatClampNeg (c5 + (2 : Int32)))) h5) fun v10 h11 => (xb (f_X11_thrown h11) fun v13 h14 => (if v13 = v4 then (if v4 = 0 then (if (lg_cmp (xm_l h14 316 0) (Int32.toInt64 v10)) = 0 then (rec (c5 + (6 : Int32)) h14) else (some ((0 : Int32), h14))) else (rec (c5 + (6 : Int32)) h14)) else (some ((0 : Int32), h14))))) else none) else none) else none)) else none) else none) else none)
def f_L_law_c33 (N ρ δ : Nat) (rec : Int32 → xm_H → Option (Int32 × xm_H)) (c5 : Int32) (h : xm_H) : Option (Int32 × xm_H) := (if (xm_k h 0).1 = 100 then (if xin (c5 + (1 : Int32)) (xm_k h 0).2 then (if xin (c5 + (2 : Int32)) (xm_k h 0).2 then (xb (f_L_setFloor ρ (xm_i h 0 (Int32.toNatClampNeg (c5 + (1 : Int32)))) (xm_i h 0 (Int32.toNatClampNeg (c5 + (2 : Int32)))) h) fun v4 h5 => (if (xm_k h5 0).1 = 100 then (if xin (c5 + (1 : Int32)) (xm_k h5 0).2 then (if xin (c5 + (2 : Int32)) (xm_k h5 0).2 then (xb (f_X11_setFloor N (xm_i h5 0 (Int32.toNatClampNeg (c5 + (1 : Int32)))) (xm_i h5 0 (Int32.toNatClampNeg (c5 + (2 : Int32)))) h5) fun v10 h11 => (xb (f_X11_thrown h11) fun v13 h14 => (if v13 = v4 then (if v4 = 0 then (if (lg_cmp (xm_l h14 316 0) (Int32.toInt64 v10)) = 0 then (rec (c5 + (6 : Int32)) h14) else (some ((0 : Int32), h14))) else (rec (c5 + (6 : Int32)) h14)) else (some ((0 : Int32), h14))))) else none) else none) else none)) else none) else none) else none)
def f_L_law_c34 (N ρ δ : Nat) (rec : Int32 → xm_H → Option (Int32 × xm_H)) (c5 : Int32) (h : xm_H) : Option (Int32 × xm_H) := (xb (f_X10_undo h) fun v1 h2 => (xb (f_X11_undo N h2) fun v4 h5 => (if v1 = v4 then (rec (c5 + (6 : Int32)) h5) else (some ((0 : Int32), h5)))))
def f_L_law_c35 (N ρ δ : Nat) (rec : Int32 → xm_H → Option (Int32 × xm_H)) (c5 : Int32) (h : xm_H) : Option (Int32 × xm_H) := (xb (f_X10_impressions h) fun v1 h2 => (xb (f_X11_impressions h2) fun v4 h5 => (if v1 = v4 then (rec (c5 + (6 : Int32)) h5) else (some ((0 : Int32), h5)))))
def f_L_law_c36 (N ρ δ : Nat) (rec : Int32 → xm_H → Option (Int32 × xm_H)) (c5 : Int32) (h : xm_H) : Option (Int32 × xm_H) := (if (xm_k h 0).1 = 100 then (if xin (c5 + (1 : Int32)) (xm_k h 0).2 then (if xin (c5 + (2 : Int32)) (xm_k h 0).2 then (xb (f_L_impression (xm_i h 0 (Int32.toNatClampNeg (c5 + (1 : Int32)))) (xm_i h 0 (Int32.toNatClampNeg (c5 + (2 : Int32)))) h) fun v4 h5 => (if (xm_k h5 0).1 = 100 then (if xin (c5 + (1 : Int32)) (xm_k h5 0).2 then (if xin (c5 + (2 : Int32)) (xm_k h5 0).2 then (xb (f_X11_impression (xm_i h5 0 (Int32.toNatClampNeg (c5 + (1 : Int32)))) (xm_i h5 0 (Int32.toNatClampNeg (c5 + (2 : Int32)))) h5) fun v10 h11 => (xb (f_X11_thrown h11) fun v13 h14 => (if v13 = v4 then (if v4 = 0 then (if (lg_cmp (xm_l h14 316 0) (Int32.toInt64 v10)) = 0 then (rec (c5 + (6 : Int32)) h14) else (some ((0 : Int32), h14))) else (rec (c5 + (6 : Int32)) h14)) else (some ((0 : Int32), h14))))) else none) else none) else none)) else none) else none) else none)
def f_L_law_c37 (N ρ δ : Nat) (rec : Int32 → xm_H → Option (Int32 × xm_H)) (c5 : Int32) (h : xm_H) : Option (Int32 × xm_H) := (xb (f_X10_revenue N h) fun v1 h2 => (xb (f_X11_revenue N h2) fun v4 h5 => (if v1 = v4 then (rec (c5 + (6 : Int32)) h5) else (some ((0 : Int32), h5)))))
def f_L_law_c38 (N ρ δ : Nat) (rec : Int32 → xm_H → Option (Int32 × xm_H)) (c5 : Int32) (h : xm_H) : Option (Int32 × xm_H) := (if (xm_k h 0).1 = 100 then (if xin (c5 + (1 : Int32)) (xm_k h 0).2 then (xb (f_L_reach N ρ (xm_i h 0 (Int32.toNatClampNeg (c5 + (1 : Int32)))) h) fun v3 h4 => (if (xm_k h4 0).1 = 100 then (if xin (c5 + (1 : Int32)) (xm_k h4 0).2 then (xb (f_X11_reach N (xm_i h4 0 (Int32.toNatClampNeg (c5 + (1 : Int32)))) h4) fun v8 h9 => (xb (f_X11_thrown h9) fun v11 h12 => (if v11 = v3 then (if v3 = 0 then (if (lg_cmp (xm_l h12 316 0) (Int32.toInt64 v8)) = 0 then (rec (c5 + (6 : Int32)) h12) else (some ((0 : Int32), h12))) else (rec (c5 + (6 : Int32)) h12)) else (some ((0 : Int32), h12))))) else none) else none)) else none) else none)
def f_L_law_c39 (N ρ δ : Nat) (rec : Int32 → xm_H → Option (Int32 × xm_H)) (c5 : Int32) (h : xm_H) : Option (Int32 × xm_H) := (if (xm_k h 0).1 = 100 then (if xin (c5 + (1 : Int32)) (xm_k h 0).2 then (xb (f_L_frequency N ρ (xm_i h 0 (Int32.toNatClampNeg (c5 + (1 : Int32)))) h) fun v3 h4 => (if (xm_k h4 0).1 = 100 then (if xin (c5 + (1 : Int32)) (xm_k h4 0).2 then (xb (f_X11_frequency N (xm_i h4 0 (Int32.toNatClampNeg (c5 + (1 : Int32)))) h4) fun v8 h9 => (xb (f_X11_thrown h9) fun v11 h12 => (if v11 = v3 then (if v3 = 0 then (if (Op.cmpValue (FP.dcmp (xm_d h12 317 0) v8) .l) = 0 then (rec (c5 + (6 : Int32)) h12) else (if (Op.cmpValue (FP.dcmp (xm_d h12 317 0) (xm_d h12 317 0)) .l) = 0 then (some ((0 : Int32), h12)) else (if (Op.cmpValue (FP.dcmp v8 v8) .l) = 0 then (some ((0 : Int32), h12)) else (rec (c5 + (6 : Int32)) h12)))) else (rec (c5 + (6 : Int32)) h12)) else (some ((0 : Int32), h12))))) else none) else none)) else none) else none)
def f_L_law_c40 (N ρ δ : Nat) (rec : Int32 → xm_H → Option (Int32 × xm_H)) (c5 : Int32) (h : xm_H) : Option (Int32 × xm_H) := (if (xm_k h 0).1 = 100 then (if xin (c5 + (1 : Int32)) (xm_k h 0).2 then (if xin (c5 + (2 : Int32)) (xm_k h 0).2 then (xb (f_L_recent N ρ (xm_i h 0 (Int32.toNatClampNeg (c5 + (1 : Int32)))) (xm_i h 0 (Int32.toNatClampNeg (c5 + (2 : Int32)))) h) fun v4 h5 => (if (xm_k h5 0).1 = 100 then (if xin (c5 + (1 : Int32)) (xm_k h5 0).2 then (if xin (c5 + (2 : Int32)) (xm_k h5 0).2 then (xb (f_X11_recent N (xm_i h5 0 (Int32.toNatClampNeg (c5 + (1 : Int32)))) (xm_i h5 0 (Int32.toNatClampNeg (c5 + (2 : Int32)))) h5) fun v10 h11 => (xb (f_X11_thrown h11) fun v13 h14 => (if v13 = v4 then (if v4 = 0 then (if (lg_cmp (xm_l h14 316 0) (Int32.toInt64 v10)) = 0 then (rec (c5 + (6 : Int32)) h14) else (some ((0 : Int32), h14))) else (rec (c5 + (6 : Int32)) h14)) else (some ((0 : Int32), h14))))) else none) else none) else none)) else none) else none) else none)
def f_L_law_c41 (N ρ δ : Nat) (rec : Int32 → xm_H → Option (Int32 × xm_H)) (c5 : Int32) (h : xm_H) : Option (Int32 × xm_H) := (xb (f_X10_topUser N h) fun v1 h2 => (xb (f_X11_topUser N h2) fun v4 h5 => (if v1 = v4 then (rec (c5 + (6 : Int32)) h5) else (some ((0 : Int32), h5)))))
def f_L_law_c42 (N ρ δ : Nat) (rec : Int32 → xm_H → Option (Int32 × xm_H)) (c5 : Int32) (h : xm_H) : Option (Int32 × xm_H) := (if (xm_k h 0).1 = 100 then (if xin (c5 + (1 : Int32)) (xm_k h 0).2 then (xb (f_L_meanPrice N ρ (xm_i h 0 (Int32.toNatClampNeg (c5 + (1 : Int32)))) h) fun v3 h4 => (if (xm_k h4 0).1 = 100 then (if xin (c5 + (1 : Int32)) (xm_k h4 0).2 then (xb (f_X11_meanPrice N (xm_i h4 0 (Int32.toNatClampNeg (c5 + (1 : Int32)))) h4) fun v8 h9 => (xb (f_X11_thrown h9) fun v11 h12 => (if v11 = v3 then (if v3 = 0 then (if (Op.cmpValue (FP.dcmp (xm_d h12 317 0) v8) .l) = 0 then (rec (c5 + (6 : Int32)) h12) else (if (Op.cmpValue (FP.dcmp (xm_d h12 317 0) (xm_d h12 317 0)) .l) = 0 then (some ((0 : Int32), h12)) else (if (Op.cmpValue (FP.dcmp v8 v8) .l) = 0 then (some ((0 : Int32), h12)) else (rec (c5 + (6 : Int32)) h12)))) else (rec (c5 + (6 : Int32)) h12)) else (some ((0 : Int32), h12))))) else none) else none)) else none) else none)
def f_L_law_c43 (N ρ δ : Nat) (rec : Int32 → xm_H → Option (Int32 × xm_H)) (c5 : Int32) (h : xm_H) : Option (Int32 × xm_H) := (xb (f_X10_conversions h) fun v1 h2 => (xb (f_X11_conversions h2) fun v4 h5 => (if v1 = v4 then (rec (c5 + (6 : Int32)) h5) else (some ((0 : Int32), h5)))))
def f_L_law_c44 (N ρ δ : Nat) (rec : Int32 → xm_H → Option (Int32 × xm_H)) (c5 : Int32) (h : xm_H) : Option (Int32 × xm_H) := (if (xm_k h 0).1 = 100 then (if xin (c5 + (1 : Int32)) (xm_k h 0).2 then (if xin (c5 + (2 : Int32)) (xm_k h 0).2 then (xb (f_L_credit N ρ (xm_i h 0 (Int32.toNatClampNeg (c5 + (1 : Int32)))) (xm_i h 0 (Int32.toNatClampNeg (c5 + (2 : Int32)))) h) fun v4 h5 => (if (xm_k h5 0).1 = 100 then (if xin (c5 + (1 : Int32)) (xm_k h5 0).2 then (if xin (c5 + (2 : Int32)) (xm_k h5 0).2 then (xb (f_X11_credit N (xm_i h5 0 (Int32.toNatClampNeg (c5 + (1 : Int32)))) (xm_i h5 0 (Int32.toNatClampNeg (c5 + (2 : Int32)))) h5) fun v10 h11 => (xb (f_X11_thrown h11) fun v13 h14 => (if v13 = v4 then (if v4 = 0 then (if (Op.cmpValue (FP.dcmp (xm_d h14 317 0) v10) .l) = 0 then (rec (c5 + (6 : Int32)) h14) else (if (Op.cmpValue (FP.dcmp (xm_d h14 317 0) (xm_d h14 317 0)) .l) = 0 then (some ((0 : Int32), h14)) else (if (Op.cmpValue (FP.dcmp v10 v10) .l) = 0 then (some ((0 : Int32), h14)) else (rec (c5 + (6 : Int32)) h14)))) else (rec (c5 + (6 : Int32)) h14)) else (some ((0 : Int32), h14))))) else none) else none) else none)) else none) else none) else none)
def f_L_law_c45 (N ρ δ : Nat) (rec : Int32 → xm_H → Option (Int32 × xm_H)) (c5 : Int32) (h : xm_H) : Option (Int32 × xm_H) := (xb (f_X10_unattributed N h) fun v1 h2 => (xb (f_X11_unattributed N h2) fun v4 h5 => (if v1 = v4 then (rec (c5 + (6 : Int32)) h5) else (some ((0 : Int32), h5)))))
def f_L_law_c46 (N ρ δ : Nat) (rec : Int32 → xm_H → Option (Int32 × xm_H)) (c5 : Int32) (h : xm_H) : Option (Int32 × xm_H) := (if (xm_k h 0).1 = 100 then (if xin (c5 + (1 : Int32)) (xm_k h 0).2 then (xb (f_L_write N ρ (xm_i h 0 (Int32.toNatClampNeg (c5 + (1 : Int32)))) h) fun v3 h4 => (if (xm_k h4 0).1 = 100 then (if xin (c5 + (1 : Int32)) (xm_k h4 0).2 then (xb (f_X11_write N (xm_i h4 0 (Int32.toNatClampNeg (c5 + (1 : Int32)))) h4) fun v8 h9 => (xb (f_X11_thrown h9) fun v11 h12 => (if v11 = v3 then (if v3 = 0 then (if (lg_cmp (xm_l h12 316 0) (Int32.toInt64 v8)) = 0 then (rec (c5 + (6 : Int32)) h12) else (some ((0 : Int32), h12))) else (rec (c5 + (6 : Int32)) h12)) else (some ((0 : Int32), h12))))) else none) else none)) else none) else none)
def f_L_law_c47 (N ρ δ : Nat) (rec : Int32 → xm_H → Option (Int32 × xm_H)) (c5 : Int32) (h : xm_H) : Option (Int32 × xm_H) := (if (xm_k h 0).1 = 100 then (if xin (c5 + (1 : Int32)) (xm_k h 0).2 then (xb (f_L_written (xm_i h 0 (Int32.toNatClampNeg (c5 + (1 : Int32)))) h) fun v3 h4 => (if (xm_k h4 0).1 = 100 then (if xin (c5 + (1 : Int32)) (xm_k h4 0).2 then (xb (f_X11_written (xm_i h4 0 (Int32.toNatClampNeg (c5 + (1 : Int32)))) h4) fun v8 h9 => (xb (f_X11_thrown h9) fun v11 h12 => (if v11 = v3 then (if v3 = 0 then (if (lg_cmp (xm_l h12 316 0) (Int32.toInt64 v8)) = 0 then (rec (c5 + (6 : Int32)) h12) else (some ((0 : Int32), h12))) else (rec (c5 + (6 : Int32)) h12)) else (some ((0 : Int32), h12))))) else none) else none)) else none) else none)
def f_L_law_28B (N ρ δ : Nat) (rec : Int32 → xm_H → Option (Int32 × xm_H)) (c5 : Int32) (h : xm_H) : Option (Int32 × xm_H) := (if 100 ≤ (xm_k h 0).1 ∧ (xm_k h 0).1 < 109 then (if ((Int32.ofNat (xm_k h 0).2) - (6 : Int32)) < c5 then (some ((1 : Int32), h)) else (if (xm_k h 0).1 = 100 then (if xin c5 (xm_k h 0).2 then (if ((xm_i h 0 (Int32.toNatClampNeg c5)) &&& (63 : Int32)) = nI 0 then (f_L_law_c0 N ρ δ rec c5 h) else (if ((xm_i h 0 (Int32.toNatClampNeg c5)) &&& (63 : Int32)) = nI 1 then (f_L_law_c1 N ρ δ rec c5 h) else (if ((xm_i h 0 (Int32.toNatClampNeg c5)) &&& (63 : Int32)) = nI 2 then (f_L_law_c2 N ρ δ rec c5 h) else (if ((xm_i h 0 (Int32.toNatClampNeg c5)) &&& (63 : Int32)) = nI 3 then (f_L_law_c3 N ρ δ rec c5 h) else (if ((xm_i h 0 (Int32.toNatClampNeg c5)) &&& (63 : Int32)) = nI 4 then (f_L_law_c4 N ρ δ rec c5 h) else (if ((xm_i h 0 (Int32.toNatClampNeg c5)) &&& (63 : Int32)) = nI 5 then (f_L_law_c5 N ρ δ rec c5 h) else (if ((xm_i h 0 (Int32.toNatClampNeg c5)) &&& (63 : Int32)) = nI 6 then (f_L_law_c6 N ρ δ rec c5 h) else (if ((xm_i h 0 (Int32.toNatClampNeg c5)) &&& (63 : Int32)) = nI 7 then (f_L_law_c7 N ρ δ rec c5 h) else (if ((xm_i h 0 (Int32.toNatClampNeg c5)) &&& (63 : Int32)) = nI 8 then (f_L_law_c8 N ρ δ rec c5 h) else (if ((xm_i h 0 (Int32.toNatClampNeg c5)) &&& (63 : Int32)) = nI 9 then (f_L_law_c9 N ρ δ rec c5 h) else (if ((xm_i h 0 (Int32.toNatClampNeg c5)) &&& (63 : Int32)) = nI 10 then (f_L_law_c10 N ρ δ rec c5 h) else (if ((xm_i h 0 (Int32.toNatClampNeg c5)) &&& (63 : Int32)) = nI 11 then (f_L_law_c11 N ρ δ rec c5 h) else (if ((xm_i h 0 (Int32.toNatClampNeg c5)) &&& (63 : Int32)) = nI 12 then (f_L_law_c12 N ρ δ rec c5 h) else (if ((xm_i h 0 (Int32.toNatClampNeg c5)) &&& (63 : Int32)) = nI 13 then (f_L_law_c13 N ρ δ rec c5 h) else (if ((xm_i h 0 (Int32.toNatClampNeg c5)) &&& (63 : Int32)) = nI 14 then (f_L_law_c14 N ρ δ rec c5 h) else (if ((xm_i h 0 (Int32.toNatClampNeg c5)) &&& (63 : Int32)) = nI 15 then (f_L_law_c15 N ρ δ rec c5 h) else (if ((xm_i h 0 (Int32.toNatClampNeg c5)) &&& (63 : Int32)) = nI 16 then (f_L_law_c16 N ρ δ rec c5 h) else (if ((xm_i h 0 (Int32.toNatClampNeg c5)) &&& (63 : Int32)) = nI 17 then (f_L_law_c17 N ρ δ rec c5 h) else (if ((xm_i h 0 (Int32.toNatClampNeg c5)) &&& (63 : Int32)) = nI 18 then (f_L_law_c18 N ρ δ rec c5 h) else (if ((xm_i h 0 (Int32.toNatClampNeg c5)) &&& (63 : Int32)) = nI 19 then (f_L_law_c19 N ρ δ rec c5 h) else (if ((xm_i h 0 (Int32.toNatClampNeg c5)) &&& (63 : Int32)) = nI 20 then (f_L_law_c20 N ρ δ rec c5 h) else (if ((xm_i h 0 (Int32.toNatClampNeg c5)) &&& (63 : Int32)) = nI 21 then (f_L_law_c21 N ρ δ rec c5 h) else (if ((xm_i h 0 (Int32.toNatClampNeg c5)) &&& (63 : Int32)) = nI 22 then (f_L_law_c22 N ρ δ rec c5 h) else (if ((xm_i h 0 (Int32.toNatClampNeg c5)) &&& (63 : Int32)) = nI 23 then (f_L_law_c23 N ρ δ rec c5 h) else (if ((xm_i h 0 (Int32.toNatClampNeg c5)) &&& (63 : Int32)) = nI 24 then (f_L_law_c24 N ρ δ rec c5 h) else (if ((xm_i h 0 (Int32.toNatClampNeg c5)) &&& (63 : Int32)) = nI 25 then (f_L_law_c25 N ρ δ rec c5 h) else (if ((xm_i h 0 (Int32.toNatClampNeg c5)) &&& (63 : Int32)) = nI 26 then (f_L_law_c26 N ρ δ rec c5 h) else (if ((xm_i h 0 (Int32.toNatClampNeg c5)) &&& (63 : Int32)) = nI 27 then (f_L_law_c27 N ρ δ rec c5 h) else (if ((xm_i h 0 (Int32.toNatClampNeg c5)) &&& (63 : Int32)) = nI 28 then (f_L_law_c28 N ρ δ rec c5 h) else (if ((xm_i h 0 (Int32.toNatClampNeg c5)) &&& (63 : Int32)) = nI 29 then (f_L_law_c29 N ρ δ rec c5 h) else (if ((xm_i h 0 (Int32.toNatClampNeg c5)) &&& (63 : Int32)) = nI 30 then (f_L_law_c30 N ρ δ rec c5 h) else (if ((xm_i h 0 (Int32.toNatClampNeg c5)) &&& (63 : Int32)) = nI 31 then (f_L_law_c31 N ρ δ rec c5 h) else (if ((xm_i h 0 (Int32.toNatClampNeg c5)) &&& (63 : Int32)) = nI 32 then (f_L_law_c32 N ρ δ rec c5 h) else (if ((xm_i h 0 (Int32.toNatClampNeg c5)) &&& (63 : Int32)) = nI 33 then (f_L_law_c33 N ρ δ rec c5 h) else (if ((xm_i h 0 (Int32.toNatClampNeg c5)) &&& (63 : Int32)) = nI 34 then (f_L_law_c34 N ρ δ rec c5 h) else (if ((xm_i h 0 (Int32.toNatClampNeg c5)) &&& (63 : Int32)) = nI 35 then (f_L_law_c35 N ρ δ rec c5 h) else (if ((xm_i h 0 (Int32.toNatClampNeg c5)) &&& (63 : Int32)) = nI 36 then (f_L_law_c36 N ρ δ rec c5 h) else (if ((xm_i h 0 (Int32.toNatClampNeg c5)) &&& (63 : Int32)) = nI 37 then (f_L_law_c37 N ρ δ rec c5 h) else (if ((xm_i h 0 (Int32.toNatClampNeg c5)) &&& (63 : Int32)) = nI 38 then (f_L_law_c38 N ρ δ rec c5 h) else (if ((xm_i h 0 (Int32.toNatClampNeg c5)) &&& (63 : Int32)) = nI 39 then (f_L_law_c39 N ρ δ rec c5 h) else (if ((xm_i h 0 (Int32.toNatClampNeg c5)) &&& (63 : Int32)) = nI 40 then (f_L_law_c40 N ρ δ rec c5 h) else (if ((xm_i h 0 (Int32.toNatClampNeg c5)) &&& (63 : Int32)) = nI 41 then (f_L_law_c41 N ρ δ rec c5 h) else (if ((xm_i h 0 (Int32.toNatClampNeg c5)) &&& (63 : Int32)) = nI 42 then (f_L_law_c42 N ρ δ rec c5 h) else (if ((xm_i h 0 (Int32.toNatClampNeg c5)) &&& (63 : Int32)) = nI 43 then (f_L_law_c43 N ρ δ rec c5 h) else (if ((xm_i h 0 (Int32.toNatClampNeg c5)) &&& (63 : Int32)) = nI 44 then (f_L_law_c44 N ρ δ rec c5 h) else (if ((xm_i h 0 (Int32.toNatClampNeg c5)) &&& (63 : Int32)) = nI 45 then (f_L_law_c45 N ρ δ rec c5 h) else (if ((xm_i h 0 (Int32.toNatClampNeg c5)) &&& (63 : Int32)) = nI 46 then (f_L_law_c46 N ρ δ rec c5 h) else (if ((xm_i h 0 (Int32.toNatClampNeg c5)) &&& (63 : Int32)) = nI 47 then (f_L_law_c47 N ρ δ rec c5 h) else (rec (c5 + (6 : Int32)) h))))))))))))))))))))))))))))))))))))))))))))))))) else none) else none)) else none)
def f_L_law_28 (N : Nat) : Nat → Int32 → xm_H → Option (Int32 × xm_H)
  | 0 => fun _ _ => none
  | n + 1 => fun c5 h => xbr (xm_r h 182 0) fun ρ => xbr (xm_r h 161 3) fun δ => f_L_law_28B N ρ δ (f_L_law_28 N n) c5 h

