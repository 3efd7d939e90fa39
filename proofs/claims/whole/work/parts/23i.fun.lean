/-! printed by wip/gen/gen23.py: methods as functions of their arguments and the heap -/
def f_X4_usersReached_5B (N : Nat) (c1 : Int32) (c2 : Int32) (k40 : Int32 → xm_H → Option (Int32 × xm_H)) (rec : Int32 → Int32 → xm_H → Option (Int32 × xm_H)) (c3 : Int32) (c4 : Int32) (h : xm_H) : Option (Int32 × xm_H) := (if c4 < c2 then (if xin c4 400 then (if (xm_i h 212 (Int32.toNatClampNeg c4)) = c1 then (rec (c3 ||| ((1 : Int32) <<< ((xm_i h 211 (Int32.toNatClampNeg c4)) &&& 31))) (c4 + (1 : Int32)) h) else (rec c3 (c4 + (1 : Int32)) h)) else none) else (k40 c3 h))
def f_X4_usersReached_5 (N : Nat) (c1 : Int32) (c2 : Int32) (k40 : Int32 → xm_H → Option (Int32 × xm_H)) : Nat → Int32 → Int32 → xm_H → Option (Int32 × xm_H)
  | 0 => fun _ _ _ => none
  | n + 1 => fun c3 c4 h => f_X4_usersReached_5B N c1 c2 k40 (f_X4_usersReached_5 N c1 c2 k40 n) c3 c4 h
def f_X4_usersReached (N : Nat) (x1 : Int32) (x2 : Int32) (h : xm_H) : Option (Int32 × xm_H) := (f_X4_usersReached_5 N x1 x2 (fun (e1 : Int32) (h2 : xm_H) => (xb (f_J6_bitCount_0f7a4 e1 h2) fun v3 h4 => (some (v3, h4)))) N (0 : Int32) (0 : Int32) h)
theorem tl_X4_usersReached_5 {ρ : Nat} {δ : Nat} {N : Nat} {c1 : Int32} {c2 : Int32} {k40 : Int32 → xm_H → Option (Int32 × xm_H)} {Q : xm_O → xm_H → Prop} {w : Int32 × xm_H}  (hQ : xS ρ δ w.2 → Q (xji w.1) w.2) (hk40 : ∀ (a0 : Int32) (h : xm_H), xS ρ δ h → k40 a0 h = some w → xm_W (xm_Rn xX 1) xM_X4_usersReached Q 40 [none, none, none, some (.int a0), none] [] h) : ∀ (n : Nat) (c3 : Int32) (c4 : Int32) (h : xm_H), xS ρ δ h → f_X4_usersReached_5 N c1 c2 k40 n c3 c4 h = some w → xm_W (xm_Rn xX 1) xM_X4_usersReached Q 5 [some (.ref 209), some (.int c1), some (.int c2), some (.int c3), some (.int c4)] [] h := by
  intro n
  induction n with
  | zero =>
    intro c3 c4 h hS hf
    exact (xn_e hf).elim
  | succ n ih =>
    intro c3 c4 h hS hf
    replace hf : f_X4_usersReached_5B N c1 c2 k40 (f_X4_usersReached_5 N c1 c2 k40 n) c3 c4 h = some w := hf
    unfold f_X4_usersReached_5B at hf
    refine xw_K (pc' := 7) (ls' := [some (.ref 209), some (.int c1), some (.int c2), some (.int c3), some (.int c4)]) (st' := [.int c4]) rfl rfl trivial ?_
    refine xw_G (pc' := 8) (st' := [.int c2, .int c4]) rfl rfl trivial ?_
    refine xj_ic_ge rfl hf (fun hc1 hf => ?_) (fun hc1 hf => ?_)
    · refine xw_G (pc' := 12) (st' := [.ref 209]) rfl rfl trivial ?_
      refine xw_gr rfl (xkf (xs_k hS rfl rfl : xm_k h 209 = (5, 0))) (xs_r hS rfl) ?_
      refine xw_G (pc' := 17) (st' := [.int c4, .ref 212]) rfl rfl trivial ?_
      refine xg_e hf (fun hg2 hf => ?_)
      refine xa_ld (t := 100) (τ := 0) (v := .int (xm_i h 212 (Int32.toNatClampNeg c4))) rfl rfl (xkf (xs_k hS rfl rfl : xm_k h 212 = (100, 400))) (xkn (xs_k hS rfl rfl : xm_k h 212 = (100, 400))) hg2 rfl ?_
      refine xw_G (pc' := 19) (st' := [.int c1, .int (xm_i h 212 (Int32.toNatClampNeg c4))]) rfl rfl trivial ?_
      refine xj_ic_ne rfl hf (fun hc3 hf => ?_) (fun hc3 hf => ?_)
      · refine xw_G (pc' := 23) (st' := [.int c3]) rfl rfl trivial ?_
        refine xw_G (pc' := 24) (st' := [.int (1 : Int32), .int c3]) rfl rfl trivial ?_
        refine xw_G (pc' := 25) (st' := [.ref 209, .int (1 : Int32), .int c3]) rfl rfl trivial ?_
        refine xw_gr rfl (xkf (xs_k hS rfl rfl : xm_k h 209 = (5, 0))) (xs_r hS rfl) ?_
        refine xw_G (pc' := 30) (st' := [.int c4, .ref 211, .int (1 : Int32), .int c3]) rfl rfl trivial ?_
        refine xa_ld (t := 100) (τ := 0) (v := .int (xm_i h 211 (Int32.toNatClampNeg c4))) rfl rfl (xkf (xs_k hS rfl rfl : xm_k h 211 = (100, 400))) (xkn (xs_k hS rfl rfl : xm_k h 211 = (100, 400))) hg2 rfl ?_
        refine xw_G (pc' := 32) (st' := [.int ((1 : Int32) <<< ((xm_i h 211 (Int32.toNatClampNeg c4)) &&& 31)), .int c3]) rfl rfl trivial ?_
        refine xw_G (pc' := 33) (st' := [.int (c3 ||| ((1 : Int32) <<< ((xm_i h 211 (Int32.toNatClampNeg c4)) &&& 31)))]) rfl rfl trivial ?_
        refine xw_G (pc' := 34) (ls' := [some (.ref 209), some (.int c1), some (.int c2), some (.int (c3 ||| ((1 : Int32) <<< ((xm_i h 211 (Int32.toNatClampNeg c4)) &&& 31)))), some (.int c4)]) (st' := []) rfl rfl (Nat.le_of_ble_eq_true rfl) ?_
        refine xw_G (pc' := 37) (ls' := [some (.ref 209), some (.int c1), some (.int c2), some (.int (c3 ||| ((1 : Int32) <<< ((xm_i h 211 (Int32.toNatClampNeg c4)) &&& 31)))), some (.int (c4 + (1 : Int32)))]) (st' := []) rfl rfl (Nat.le_of_ble_eq_true rfl) ?_
        refine xw_G (pc' := 5) (st' := []) rfl rfl trivial ?_
        refine xw_M rfl rfl ?_
        exact ih _ _ _ hS hf
      · refine xw_G (pc' := 37) (ls' := [some (.ref 209), some (.int c1), some (.int c2), some (.int c3), some (.int (c4 + (1 : Int32)))]) (st' := []) rfl rfl (Nat.le_of_ble_eq_true rfl) ?_
        refine xw_G (pc' := 5) (st' := []) rfl rfl trivial ?_
        refine xw_M rfl rfl ?_
        exact ih _ _ _ hS hf
    · refine xw_M rfl rfl ?_
      exact hk40 _ _ hS hf
theorem t_X4_usersReached {N : Nat} {ρ : Nat} {δ : Nat} {x1 : Int32} {x2 : Int32} {h : xm_H} {w : Int32 × xm_H}  (hS : xS ρ δ h) (hf : f_X4_usersReached N x1 x2 h = some w) : xm_Rn xX 2 35 [.ref 209, .int x1, .int x2] h (xji w.1) w.2 ∧ xS ρ δ w.2 := by
  refine xt_mk (φ := fun h => xS ρ δ h) (M := xM_X4_usersReached) (ls := [some (.ref 209), some (.int x1), some (.int x2), none, none]) rfl (Nat.le_of_ble_eq_true rfl) rfl (fun Q hQ => ?_)
  unfold f_X4_usersReached at hf
  refine xw_G (pc' := 1) (st' := [.int (0 : Int32)]) rfl rfl trivial ?_
  refine xw_G (pc' := 2) (ls' := [some (.ref 209), some (.int x1), some (.int x2), some (.int (0 : Int32)), none]) (st' := []) rfl rfl (Nat.le_of_ble_eq_true rfl) ?_
  refine xw_G (pc' := 3) (st' := [.int (0 : Int32)]) rfl rfl trivial ?_
  refine xw_G (pc' := 5) (ls' := [some (.ref 209), some (.int x1), some (.int x2), some (.int (0 : Int32)), some (.int (0 : Int32))]) (st' := []) rfl rfl (Nat.le_of_ble_eq_true rfl) ?_
  refine xw_M rfl rfl ?_
  refine tl_X4_usersReached_5  hQ (fun e1 h2 hS hf => ?_) _ _ _ _ hS hf
  refine xw_K (pc' := 41) (ls' := [none, none, none, some (.int e1), none]) (st' := [.int e1]) rfl rfl trivial ?_
  refine xb_e hf (fun v3 h4 e5 hf => ?_)
  refine xw_S (v := some (.int v3)) rfl (Nat.le_of_ble_eq_true rfl) (Nat.le_of_ble_eq_true rfl) (xm_Rn_le (Nat.le_of_ble_eq_true rfl) (t_J6_bitCount_0f7a4  hS e5).1) ?_
  have hS := (t_J6_bitCount_0f7a4  hS e5).2
  show xm_W _ _ _ 44 _ [.int v3] _
  exact xr_i (inj := xji) rfl rfl rfl rfl hf hQ hS
def f_X10_reach (N : Nat) (ρ : Nat) (x1 : Int32) (h : xm_H) : Option ((Int32 ⊕ Nat × Nat) × xm_H) := (xe (f_X10_requireCampaign ρ x1 h) (fun v1 h2 => (xb (f_X4_usersReached N x1 (xm_i h2 201 2) h2) fun v4 h5 => (some (.inl v4, h5)))) (fun q7 h8 => (some (.inr q7, h8))))
theorem t_X10_reach {N : Nat} {ρ : Nat} {δ : Nat} {x1 : Int32} {h : xm_H} {w : (Int32 ⊕ Nat × Nat) × xm_H}  (hS : xS ρ δ h) (hf : f_X10_reach N ρ x1 h = some w) : xm_Rn xX 3 113 [.ref 160, .int x1] h (xti w.1) w.2 ∧ xS ρ δ w.2 := by
  refine xt_mk (φ := fun h => xS ρ δ h) (M := xM_X10_reach) (ls := [some (.ref 160), some (.int x1)]) rfl (Nat.le_of_ble_eq_true rfl) rfl (fun Q hQ => ?_)
  unfold f_X10_reach at hf
  refine xw_G (pc' := 1) (st' := [.ref 160]) rfl rfl trivial ?_
  refine xw_G (pc' := 2) (st' := [.int x1, .ref 160]) rfl rfl trivial ?_
  refine xe_e hf (fun v1 h2 e3 hf => ?_) (fun q7 h8 e3 hf => ?_)
  · refine xw_V (v := none) rfl rfl (xkf (xs_k hS rfl rfl : xm_k h 160 = (0, 0))) (Nat.le_of_ble_eq_true rfl) (Nat.le_of_ble_eq_true rfl) (xm_Rn_le (Nat.le_of_ble_eq_true rfl) (t_X10_requireCampaign  hS e3).1) ?_
    have hS := (t_X10_requireCampaign  hS e3).2
    show xm_W _ _ _ 5 _ [] _
    refine xw_G (pc' := 6) (st' := [.ref 160]) rfl rfl trivial ?_
    refine xw_gr rfl (xkf (xs_k hS rfl rfl : xm_k h2 160 = (0, 0))) (xs_r hS rfl) ?_
    refine xw_gr rfl (xkf (xs_k hS rfl rfl : xm_k h2 182 = (3, 0))) (xs_r hS rfl) ?_
    refine xw_G (pc' := 13) (st' := [.int x1, .ref 209]) rfl rfl trivial ?_
    refine xw_G (pc' := 14) (st' := [.ref 160, .int x1, .ref 209]) rfl rfl trivial ?_
    refine xw_gr rfl (xkf (xs_k hS rfl rfl : xm_k h2 160 = (0, 0))) (xs_r hS rfl) ?_
    refine xw_gr rfl (xkf (xs_k hS rfl rfl : xm_k h2 182 = (3, 0))) (xs_r hS rfl) ?_
    refine xw_G (pc' := 23) (st' := [.int (xm_i h2 201 2), .int x1, .ref 209]) rfl rfl (xkf (xs_k hS rfl rfl : xm_k h2 201 = (8, 0))) ?_
    refine xb_e hf (fun v4 h5 e6 hf => ?_)
    refine xw_V (v := some (.int v4)) rfl rfl (xkf (xs_k hS rfl rfl : xm_k h2 209 = (5, 0))) (Nat.le_of_ble_eq_true rfl) (Nat.le_of_ble_eq_true rfl) (xm_Rn_le (Nat.le_of_ble_eq_true rfl) (t_X4_usersReached  hS e6).1) ?_
    have hS := (t_X4_usersReached  hS e6).2
    show xm_W _ _ _ 26 _ [.int v4] _
    exact xr_i (inj := xti) rfl rfl rfl rfl hf hQ hS
  · refine xw_VX (x := q7) rfl rfl (xkf (xs_k hS rfl rfl : xm_k h 160 = (0, 0))) (Nat.le_of_ble_eq_true rfl) (Nat.le_of_ble_eq_true rfl) (xm_Rn_le (Nat.le_of_ble_eq_true rfl) (t_X10_requireCampaign  hS e3).1) rfl ?_
    have hS := (t_X10_requireCampaign  hS e3).2
    exact xr_x (inj := xti) rfl hf hQ hS
def f_L_reach (N : Nat) (ρ : Nat) (x1 : Int32) (h : xm_H) : Option (Int32 × xm_H) := (xe (f_X10_reach N ρ x1 h) (fun v1 h2 => (xl (xm_sl h2 316 0 (Int32.toInt64 v1)) fun h4 => (some ((0 : Int32), h4)))) (fun q6 h7 => (if (q6).1 = 14 then (some ((1 : Int32), h7)) else none)))
theorem t_L_reach {N : Nat} {ρ : Nat} {δ : Nat} {x1 : Int32} {h : xm_H} {w : Int32 × xm_H}  (hS : xS ρ δ h) (hf : f_L_reach N ρ x1 h = some w) : xm_Rn xX 4 355 [.ref 160, .int x1, .ref 316] h (xji w.1) w.2 ∧ xS ρ δ w.2 := by
  refine xt_mk (φ := fun h => xS ρ δ h) (M := xM_L_reach) (ls := [some (.ref 160), some (.int x1), some (.ref 316), none]) rfl (Nat.le_of_ble_eq_true rfl) rfl (fun Q hQ => ?_)
  unfold f_L_reach at hf
  refine xw_G (pc' := 1) (st' := [.ref 316]) rfl rfl trivial ?_
  refine xw_G (pc' := 2) (st' := [.int (0 : Int32), .ref 316]) rfl rfl trivial ?_
  refine xw_G (pc' := 3) (st' := [.ref 160, .int (0 : Int32), .ref 316]) rfl rfl trivial ?_
  refine xw_G (pc' := 4) (st' := [.int x1, .ref 160, .int (0 : Int32), .ref 316]) rfl rfl trivial ?_
  refine xe_e hf (fun v1 h2 e3 hf => ?_) (fun q6 h7 e3 hf => ?_)
  · refine xw_V (v := some (.int v1)) rfl rfl (xkf (xs_k hS rfl rfl : xm_k h 160 = (0, 0))) (Nat.le_of_ble_eq_true rfl) (Nat.le_of_ble_eq_true rfl) (xm_Rn_le (Nat.le_of_ble_eq_true rfl) (t_X10_reach  hS e3).1) ?_
    have hS := (t_X10_reach  hS e3).2
    show xm_W _ _ _ 7 _ [.int v1, .int (0 : Int32), .ref 316] _
    refine xw_G (pc' := 8) (st' := [.long (Int32.toInt64 v1), .int (0 : Int32), .ref 316]) rfl rfl trivial ?_
    refine xa_l rfl (xkf (xs_k hS rfl rfl : xm_k h2 316 = (104, 1))) (xkn (xs_k hS rfl rfl : xm_k h2 316 = (104, 1))) (by decide : xin (0 : Int32) 1) (Nat.le_of_ble_eq_true rfl) hf (fun h4 e5 hf => ?_)
    have hS := xS_sl hS e5
    refine xw_G (pc' := 15) (st' := []) rfl rfl trivial ?_
    refine xw_G (pc' := 16) (st' := [.int (0 : Int32)]) rfl rfl trivial ?_
    exact xr_i (inj := xji) rfl rfl rfl rfl hf hQ hS
  · by_cases hc8 : (q6).1 = 14
    · rw [if_pos hc8] at hf
      refine xw_VH (x := q6) (p := 12) rfl rfl (xkf (xs_k hS rfl rfl : xm_k h 160 = (0, 0))) (Nat.le_of_ble_eq_true rfl) (Nat.le_of_ble_eq_true rfl) (xm_Rn_le (Nat.le_of_ble_eq_true rfl) (t_X10_reach  hS e3).1) (by rw [hc8]; rfl) ?_
      have hS := (t_X10_reach  hS e3).2
      refine xw_G (pc' := 13) (ls' := [some (.ref 160), some (.int x1), some (.ref 316), some (.ref ((q6).2))]) (st' := []) rfl rfl (Nat.le_of_ble_eq_true rfl) ?_
      refine xw_G (pc' := 14) (st' := [.int (1 : Int32)]) rfl rfl trivial ?_
      exact xr_i (inj := xji) rfl rfl rfl rfl hf hQ hS
    · rw [if_neg hc8] at hf
      exact (xn_e hf).elim
def f_X11_reachOf_7B (N : Nat) (c1 : Int32) (rec : Int32 → Int32 → Int32 → xm_H → Option (Int32 × xm_H)) (c2 : Int32) (c3 : Int32) (c4 : Int32) (h : xm_H) : Option (Int32 × xm_H) := (if c4 < (xm_i h 303 1) then (xb (f_X11_impressionAt c4 (1 : Int32) h) fun v2 h3 => (xb (f_X11_impressionAt c4 (2 : Int32) h3) fun v5 h6 => (if v5 = c1 then (if ((c2 >>> (v2 &&& 31)) &&& (1 : Int32)) = 0 then (rec (c2 ||| ((1 : Int32) <<< (v2 &&& 31))) (c3 + (1 : Int32)) (c4 + (1 : Int32)) h6) else (rec c2 c3 (c4 + (1 : Int32)) h6)) else (rec c2 c3 (c4 + (1 : Int32)) h6)))) else (some (c3, h)))
def f_X11_reachOf_7 (N : Nat) (c1 : Int32) : Nat → Int32 → Int32 → Int32 → xm_H → Option (Int32 × xm_H)
  | 0 => fun _ _ _ _ => none
  | n + 1 => fun c2 c3 c4 h => f_X11_reachOf_7B N c1 (f_X11_reachOf_7 N c1 n) c2 c3 c4 h
def f_X11_reachOf (N : Nat) (x1 : Int32) (h : xm_H) : Option (Int32 × xm_H) := (f_X11_reachOf_7 N x1 N (0 : Int32) (0 : Int32) (0 : Int32) h)
theorem tl_X11_reachOf_7 {ρ : Nat} {δ : Nat} {N : Nat} {c1 : Int32} {Q : xm_O → xm_H → Prop} {w : Int32 × xm_H}  (hQ : xS ρ δ w.2 → Q (xji w.1) w.2)  : ∀ (n : Nat) (c2 : Int32) (c3 : Int32) (c4 : Int32) (h : xm_H), xS ρ δ h → f_X11_reachOf_7 N c1 n c2 c3 c4 h = some w → xm_W (xm_Rn xX 1) xM_X11_reachOf Q 7 [some (.ref 302), some (.int c1), some (.int c2), some (.int c3), some (.int c4), none] [] h := by
  intro n
  induction n with
  | zero =>
    intro c2 c3 c4 h hS hf
    exact (xn_e hf).elim
  | succ n ih =>
    intro c2 c3 c4 h hS hf
    replace hf : f_X11_reachOf_7B N c1 (f_X11_reachOf_7 N c1 n) c2 c3 c4 h = some w := hf
    unfold f_X11_reachOf_7B at hf
    refine xw_K (pc' := 9) (ls' := [some (.ref 302), some (.int c1), some (.int c2), some (.int c3), some (.int c4), none]) (st' := [.int c4]) rfl rfl trivial ?_
    refine xw_G (pc' := 10) (st' := [.ref 302, .int c4]) rfl rfl trivial ?_
    refine xw_gr rfl (xkf (xs_k hS rfl rfl : xm_k h 302 = (11, 0))) (xs_r hS rfl) ?_
    refine xw_G (pc' := 14) (st' := [.int (1 : Int32), .ref 303, .int c4]) rfl rfl trivial ?_
    refine xa_ld (t := 100) (τ := 0) (v := .int (xm_i h 303 1)) rfl rfl (xkf (xs_k hS rfl rfl : xm_k h 303 = (100, 2217))) (xkn (xs_k hS rfl rfl : xm_k h 303 = (100, 2217))) (by decide : xin (1 : Int32) 2217) rfl ?_
    refine xj_ic_ge rfl hf (fun hc1 hf => ?_) (fun hc1 hf => ?_)
    · refine xw_G (pc' := 19) (st' := [.ref 302]) rfl rfl trivial ?_
      refine xw_G (pc' := 21) (st' := [.int c4, .ref 302]) rfl rfl trivial ?_
      refine xw_G (pc' := 22) (st' := [.int (1 : Int32), .int c4, .ref 302]) rfl rfl trivial ?_
      refine xb_e hf (fun v2 h3 e4 hf => ?_)
      refine xw_V (v := some (.int v2)) rfl rfl (xkf (xs_k hS rfl rfl : xm_k h 302 = (11, 0))) (Nat.le_of_ble_eq_true rfl) (Nat.le_of_ble_eq_true rfl) (xm_Rn_le (Nat.le_of_ble_eq_true rfl) (t_X11_impressionAt  hS e4).1) ?_
      have hS := (t_X11_impressionAt  hS e4).2
      show xm_W _ _ _ 25 _ [.int v2] _
      refine xw_G (pc' := 27) (ls' := [some (.ref 302), some (.int c1), some (.int c2), some (.int c3), some (.int c4), some (.int v2)]) (st' := []) rfl rfl (Nat.le_of_ble_eq_true rfl) ?_
      refine xw_G (pc' := 28) (st' := [.ref 302]) rfl rfl trivial ?_
      refine xw_G (pc' := 30) (st' := [.int c4, .ref 302]) rfl rfl trivial ?_
      refine xw_G (pc' := 31) (st' := [.int (2 : Int32), .int c4, .ref 302]) rfl rfl trivial ?_
      refine xb_e hf (fun v5 h6 e7 hf => ?_)
      refine xw_V (v := some (.int v5)) rfl rfl (xkf (xs_k hS rfl rfl : xm_k h3 302 = (11, 0))) (Nat.le_of_ble_eq_true rfl) (Nat.le_of_ble_eq_true rfl) (xm_Rn_le (Nat.le_of_ble_eq_true rfl) (t_X11_impressionAt  hS e7).1) ?_
      have hS := (t_X11_impressionAt  hS e7).2
      show xm_W _ _ _ 34 _ [.int v5] _
      refine xw_G (pc' := 35) (st' := [.int c1, .int v5]) rfl rfl trivial ?_
      refine xj_ic_ne rfl hf (fun hc8 hf => ?_) (fun hc8 hf => ?_)
      · refine xw_G (pc' := 39) (st' := [.int c2]) rfl rfl trivial ?_
        refine xw_G (pc' := 41) (st' := [.int v2, .int c2]) rfl rfl trivial ?_
        refine xw_G (pc' := 42) (st' := [.int (c2 >>> (v2 &&& 31))]) rfl rfl trivial ?_
        refine xw_G (pc' := 43) (st' := [.int (1 : Int32), .int (c2 >>> (v2 &&& 31))]) rfl rfl trivial ?_
        refine xw_G (pc' := 44) (st' := [.int ((c2 >>> (v2 &&& 31)) &&& (1 : Int32))]) rfl rfl trivial ?_
        refine xj_if_ne rfl hf (fun hc9 hf => ?_) (fun hc9 hf => ?_)
        · refine xw_G (pc' := 48) (st' := [.int c2]) rfl rfl trivial ?_
          refine xw_G (pc' := 49) (st' := [.int (1 : Int32), .int c2]) rfl rfl trivial ?_
          refine xw_G (pc' := 51) (st' := [.int v2, .int (1 : Int32), .int c2]) rfl rfl trivial ?_
          refine xw_G (pc' := 52) (st' := [.int ((1 : Int32) <<< (v2 &&& 31)), .int c2]) rfl rfl trivial ?_
          refine xw_G (pc' := 53) (st' := [.int (c2 ||| ((1 : Int32) <<< (v2 &&& 31)))]) rfl rfl trivial ?_
          refine xw_G (pc' := 54) (ls' := [some (.ref 302), some (.int c1), some (.int (c2 ||| ((1 : Int32) <<< (v2 &&& 31)))), some (.int c3), some (.int c4), some (.int v2)]) (st' := []) rfl rfl (Nat.le_of_ble_eq_true rfl) ?_
          refine xw_G (pc' := 57) (ls' := [some (.ref 302), some (.int c1), some (.int (c2 ||| ((1 : Int32) <<< (v2 &&& 31)))), some (.int (c3 + (1 : Int32))), some (.int c4), some (.int v2)]) (st' := []) rfl rfl (Nat.le_of_ble_eq_true rfl) ?_
          refine xw_G (pc' := 60) (ls' := [some (.ref 302), some (.int c1), some (.int (c2 ||| ((1 : Int32) <<< (v2 &&& 31)))), some (.int (c3 + (1 : Int32))), some (.int (c4 + (1 : Int32))), some (.int v2)]) (st' := []) rfl rfl (Nat.le_of_ble_eq_true rfl) ?_
          refine xw_G (pc' := 7) (st' := []) rfl rfl trivial ?_
          refine xw_M rfl rfl ?_
          exact ih _ _ _ _ hS hf
        · refine xw_G (pc' := 60) (ls' := [some (.ref 302), some (.int c1), some (.int c2), some (.int c3), some (.int (c4 + (1 : Int32))), some (.int v2)]) (st' := []) rfl rfl (Nat.le_of_ble_eq_true rfl) ?_
          refine xw_G (pc' := 7) (st' := []) rfl rfl trivial ?_
          refine xw_M rfl rfl ?_
          exact ih _ _ _ _ hS hf
      · refine xw_G (pc' := 60) (ls' := [some (.ref 302), some (.int c1), some (.int c2), some (.int c3), some (.int (c4 + (1 : Int32))), some (.int v2)]) (st' := []) rfl rfl (Nat.le_of_ble_eq_true rfl) ?_
        refine xw_G (pc' := 7) (st' := []) rfl rfl trivial ?_
        refine xw_M rfl rfl ?_
        exact ih _ _ _ _ hS hf
    · refine xw_G (pc' := 64) (st' := [.int c3]) rfl rfl trivial ?_
      exact xr_i (inj := xji) rfl rfl rfl rfl hf hQ hS
theorem t_X11_reachOf {N : Nat} {ρ : Nat} {δ : Nat} {x1 : Int32} {h : xm_H} {w : Int32 × xm_H}  (hS : xS ρ δ h) (hf : f_X11_reachOf N x1 h = some w) : xm_Rn xX 2 232 [.ref 302, .int x1] h (xji w.1) w.2 ∧ xS ρ δ w.2 := by
  refine xt_mk (φ := fun h => xS ρ δ h) (M := xM_X11_reachOf) (ls := [some (.ref 302), some (.int x1), none, none, none, none]) rfl (Nat.le_of_ble_eq_true rfl) rfl (fun Q hQ => ?_)
  unfold f_X11_reachOf at hf
  refine xw_G (pc' := 1) (st' := [.int (0 : Int32)]) rfl rfl trivial ?_
  refine xw_G (pc' := 2) (ls' := [some (.ref 302), some (.int x1), some (.int (0 : Int32)), none, none, none]) (st' := []) rfl rfl (Nat.le_of_ble_eq_true rfl) ?_
  refine xw_G (pc' := 3) (st' := [.int (0 : Int32)]) rfl rfl trivial ?_
  refine xw_G (pc' := 4) (ls' := [some (.ref 302), some (.int x1), some (.int (0 : Int32)), some (.int (0 : Int32)), none, none]) (st' := []) rfl rfl (Nat.le_of_ble_eq_true rfl) ?_
  refine xw_G (pc' := 5) (st' := [.int (0 : Int32)]) rfl rfl trivial ?_
  refine xw_G (pc' := 7) (ls' := [some (.ref 302), some (.int x1), some (.int (0 : Int32)), some (.int (0 : Int32)), some (.int (0 : Int32)), none]) (st' := []) rfl rfl (Nat.le_of_ble_eq_true rfl) ?_
  refine xw_M rfl rfl ?_
  refine tl_X11_reachOf_7  hQ  _ _ _ _ _ hS hf
def f_X11_reach (N : Nat) (x1 : Int32) (h : xm_H) : Option (Int32 × xm_H) := (xb (f_X11_isCampaign x1 h) fun v1 h2 => (xb (f_X11_good v1 h2) fun v4 h5 => (if v4 = 0 then (some ((0 : Int32), h5)) else (xb (f_X11_reachOf N x1 h5) fun v8 h9 => (some (v8, h9))))))
theorem t_X11_reach {N : Nat} {ρ : Nat} {δ : Nat} {x1 : Int32} {h : xm_H} {w : Int32 × xm_H}  (hS : xS ρ δ h) (hf : f_X11_reach N x1 h = some w) : xm_Rn xX 3 233 [.ref 302, .int x1] h (xji w.1) w.2 ∧ xS ρ δ w.2 := by
  refine xt_mk (φ := fun h => xS ρ δ h) (M := xM_X11_reach) (ls := [some (.ref 302), some (.int x1)]) rfl (Nat.le_of_ble_eq_true rfl) rfl (fun Q hQ => ?_)
  unfold f_X11_reach at hf
  refine xw_G (pc' := 1) (st' := [.ref 302]) rfl rfl trivial ?_
  refine xw_G (pc' := 2) (st' := [.ref 302, .ref 302]) rfl rfl trivial ?_
  refine xw_G (pc' := 3) (st' := [.int x1, .ref 302, .ref 302]) rfl rfl trivial ?_
  refine xb_e hf (fun v1 h2 e3 hf => ?_)
  refine xw_V (v := some (.int v1)) rfl rfl (xkf (xs_k hS rfl rfl : xm_k h 302 = (11, 0))) (Nat.le_of_ble_eq_true rfl) (Nat.le_of_ble_eq_true rfl) (xm_Rn_le (Nat.le_of_ble_eq_true rfl) (t_X11_isCampaign  hS e3).1) ?_
  have hS := (t_X11_isCampaign  hS e3).2
  show xm_W _ _ _ 6 _ [.int v1, .ref 302] _
  refine xb_e hf (fun v4 h5 e6 hf => ?_)
  refine xw_V (v := some (.int v4)) rfl rfl (xkf (xs_k hS rfl rfl : xm_k h2 302 = (11, 0))) (Nat.le_of_ble_eq_true rfl) (Nat.le_of_ble_eq_true rfl) (xm_Rn_le (Nat.le_of_ble_eq_true rfl) (t_X11_good  hS e6).1) ?_
  have hS := (t_X11_good  hS e6).2
  show xm_W _ _ _ 9 _ [.int v4] _
  refine xj_if_eq rfl hf (fun hc7 hf => ?_) (fun hc7 hf => ?_)
  · refine xw_G (pc' := 21) (st' := [.int (0 : Int32)]) rfl rfl trivial ?_
    exact xr_i (inj := xji) rfl rfl rfl rfl hf hQ hS
  · refine xw_G (pc' := 13) (st' := [.ref 302]) rfl rfl trivial ?_
    refine xw_G (pc' := 14) (st' := [.int x1, .ref 302]) rfl rfl trivial ?_
    refine xb_e hf (fun v8 h9 e10 hf => ?_)
    refine xw_V (v := some (.int v8)) rfl rfl (xkf (xs_k hS rfl rfl : xm_k h5 302 = (11, 0))) (Nat.le_of_ble_eq_true rfl) (Nat.le_of_ble_eq_true rfl) (xm_Rn_le (Nat.le_of_ble_eq_true rfl) (t_X11_reachOf  hS e10).1) ?_
    have hS := (t_X11_reachOf  hS e10).2
    show xm_W _ _ _ 17 _ [.int v8] _
    refine xw_G (pc' := 21) (st' := [.int v8]) rfl rfl trivial ?_
    exact xr_i (inj := xji) rfl rfl rfl rfl hf hQ hS
def f_X10_quotient (x0 : Int32) (x1 : Int32) (h : xm_H) : Option (UInt64 × xm_H) := (if x1 = 0 then (some (FP.dconst0, h)) else (if (FP.ddiv (FP.i2d x0) (FP.i2d x1)) &&& 0x7fffffffffffffff ≤ 0x7ff0000000000000 then (some (FP.ddiv (FP.i2d x0) (FP.i2d x1), h)) else none))
theorem t_X10_quotient {ρ : Nat} {δ : Nat} {x0 : Int32} {x1 : Int32} {h : xm_H} {w : UInt64 × xm_H}  (hS : xS ρ δ h) (hf : f_X10_quotient x0 x1 h = some w) : xm_Rn xX 1 124 [.int x0, .int x1] h (xjd w.1) w.2 ∧ xS ρ δ w.2 := by
  refine xt_mk (φ := fun h => xS ρ δ h) (M := xM_X10_quotient) (ls := [some (.int x0), some (.int x1)]) rfl (Nat.le_of_ble_eq_true rfl) rfl (fun Q hQ => ?_)
  unfold f_X10_quotient at hf
  refine xw_G (pc' := 1) (st' := [.int x1]) rfl rfl trivial ?_
  refine xj_if_ne rfl hf (fun hc1 hf => ?_) (fun hc1 hf => ?_)
  · refine xw_G (pc' := 5) (st' := [.double FP.dconst0]) rfl rfl trivial ?_
    refine xw_G (pc' := 13) (st' := [.double FP.dconst0]) rfl rfl trivial ?_
    exact xr_d (inj := xjd) rfl rfl hf hQ hS
  · refine xw_G (pc' := 9) (st' := [.int x0]) rfl rfl trivial ?_
    refine xw_G (pc' := 10) (st' := [.double (FP.i2d x0)]) rfl rfl trivial ?_
    refine xw_G (pc' := 11) (st' := [.int x1, .double (FP.i2d x0)]) rfl rfl trivial ?_
    refine xw_G (pc' := 12) (st' := [.double (FP.i2d x1), .double (FP.i2d x0)]) rfl rfl trivial ?_
    refine xg_e hf (fun hg2 hf => ?_)
    refine xw_G (pc' := 13) (st' := [.double (FP.ddiv (FP.i2d x0) (FP.i2d x1))]) rfl rfl hg2 ?_
    exact xr_d (inj := xjd) rfl rfl hf hQ hS
def f_X10_frequency (N : Nat) (ρ : Nat) (x1 : Int32) (h : xm_H) : Option ((UInt64 ⊕ Nat × Nat) × xm_H) := (xe (f_X10_requireCampaign ρ x1 h) (fun v1 h2 => (xb (f_X4_countOf N x1 (0 : Int32) (xm_i h2 201 2) h2) fun v4 h5 => (xb (f_X4_usersReached N x1 (xm_i h2 201 2) h5) fun v7 h8 => (xb (f_X10_quotient v4 v7 h8) fun v10 h11 => (some (.inl v10, h11)))))) (fun q13 h14 => (some (.inr q13, h14))))
theorem t_X10_frequency {N : Nat} {ρ : Nat} {δ : Nat} {x1 : Int32} {h : xm_H} {w : (UInt64 ⊕ Nat × Nat) × xm_H}  (hS : xS ρ δ h) (hf : f_X10_frequency N ρ x1 h = some w) : xm_Rn xX 3 114 [.ref 160, .int x1] h (xtd w.1) w.2 ∧ xS ρ δ w.2 := by
  refine xt_mk (φ := fun h => xS ρ δ h) (M := xM_X10_frequency) (ls := [some (.ref 160), some (.int x1), none]) rfl (Nat.le_of_ble_eq_true rfl) rfl (fun Q hQ => ?_)
  unfold f_X10_frequency at hf
  refine xw_G (pc' := 1) (st' := [.ref 160]) rfl rfl trivial ?_
  refine xw_G (pc' := 2) (st' := [.int x1, .ref 160]) rfl rfl trivial ?_
  refine xe_e hf (fun v1 h2 e3 hf => ?_) (fun q13 h14 e3 hf => ?_)
  · refine xw_V (v := none) rfl rfl (xkf (xs_k hS rfl rfl : xm_k h 160 = (0, 0))) (Nat.le_of_ble_eq_true rfl) (Nat.le_of_ble_eq_true rfl) (xm_Rn_le (Nat.le_of_ble_eq_true rfl) (t_X10_requireCampaign  hS e3).1) ?_
    have hS := (t_X10_requireCampaign  hS e3).2
    show xm_W _ _ _ 5 _ [] _
    refine xw_G (pc' := 6) (st' := [.ref 160]) rfl rfl trivial ?_
    refine xw_gr rfl (xkf (xs_k hS rfl rfl : xm_k h2 160 = (0, 0))) (xs_r hS rfl) ?_
    refine xw_gr rfl (xkf (xs_k hS rfl rfl : xm_k h2 182 = (3, 0))) (xs_r hS rfl) ?_
    refine xw_G (pc' := 15) (st' := [.int (xm_i h2 201 2)]) rfl rfl (xkf (xs_k hS rfl rfl : xm_k h2 201 = (8, 0))) ?_
    refine xw_G (pc' := 16) (ls' := [some (.ref 160), some (.int x1), some (.int (xm_i h2 201 2))]) (st' := []) rfl rfl (Nat.le_of_ble_eq_true rfl) ?_
    refine xw_G (pc' := 17) (st' := [.ref 160]) rfl rfl trivial ?_
    refine xw_gr rfl (xkf (xs_k hS rfl rfl : xm_k h2 160 = (0, 0))) (xs_r hS rfl) ?_
    refine xw_gr rfl (xkf (xs_k hS rfl rfl : xm_k h2 182 = (3, 0))) (xs_r hS rfl) ?_
    refine xw_G (pc' := 24) (st' := [.int x1, .ref 209]) rfl rfl trivial ?_
    refine xw_G (pc' := 25) (st' := [.int (0 : Int32), .int x1, .ref 209]) rfl rfl trivial ?_
    refine xw_G (pc' := 26) (st' := [.int (xm_i h2 201 2), .int (0 : Int32), .int x1, .ref 209]) rfl rfl trivial ?_
    refine xb_e hf (fun v4 h5 e6 hf => ?_)
    refine xw_V (v := some (.int v4)) rfl rfl (xkf (xs_k hS rfl rfl : xm_k h2 209 = (5, 0))) (Nat.le_of_ble_eq_true rfl) (Nat.le_of_ble_eq_true rfl) (xm_Rn_le (Nat.le_of_ble_eq_true rfl) (t_X4_countOf  hS e6).1) ?_
    have hS := (t_X4_countOf  hS e6).2
    show xm_W _ _ _ 29 _ [.int v4] _
    refine xw_G (pc' := 30) (st' := [.ref 160, .int v4]) rfl rfl trivial ?_
    refine xw_gr rfl (xkf (xs_k hS rfl rfl : xm_k h5 160 = (0, 0))) (xs_r hS rfl) ?_
    refine xw_gr rfl (xkf (xs_k hS rfl rfl : xm_k h5 182 = (3, 0))) (xs_r hS rfl) ?_
    refine xw_G (pc' := 37) (st' := [.int x1, .ref 209, .int v4]) rfl rfl trivial ?_
    refine xw_G (pc' := 38) (st' := [.int (xm_i h2 201 2), .int x1, .ref 209, .int v4]) rfl rfl trivial ?_
    refine xb_e hf (fun v7 h8 e9 hf => ?_)
    refine xw_V (v := some (.int v7)) rfl rfl (xkf (xs_k hS rfl rfl : xm_k h5 209 = (5, 0))) (Nat.le_of_ble_eq_true rfl) (Nat.le_of_ble_eq_true rfl) (xm_Rn_le (Nat.le_of_ble_eq_true rfl) (t_X4_usersReached  hS e9).1) ?_
    have hS := (t_X4_usersReached  hS e9).2
    show xm_W _ _ _ 41 _ [.int v7, .int v4] _
    refine xb_e hf (fun v10 h11 e12 hf => ?_)
    refine xw_S (v := some (.double v10)) rfl (Nat.le_of_ble_eq_true rfl) (Nat.le_of_ble_eq_true rfl) (xm_Rn_le (Nat.le_of_ble_eq_true rfl) (t_X10_quotient  hS e12).1) ?_
    have hS := (t_X10_quotient  hS e12).2
    show xm_W _ _ _ 44 _ [.double v10] _
    exact xr_d (inj := xtd) rfl rfl hf hQ hS
  · refine xw_VX (x := q13) rfl rfl (xkf (xs_k hS rfl rfl : xm_k h 160 = (0, 0))) (Nat.le_of_ble_eq_true rfl) (Nat.le_of_ble_eq_true rfl) (xm_Rn_le (Nat.le_of_ble_eq_true rfl) (t_X10_requireCampaign  hS e3).1) rfl ?_
    have hS := (t_X10_requireCampaign  hS e3).2
    exact xr_x (inj := xtd) rfl hf hQ hS
def f_L_frequency (N : Nat) (ρ : Nat) (x1 : Int32) (h : xm_H) : Option (Int32 × xm_H) := (xe (f_X10_frequency N ρ x1 h) (fun v1 h2 => (xl (xm_sd h2 317 0 v1) fun h4 => (some ((0 : Int32), h4)))) (fun q6 h7 => (if (q6).1 = 14 then (some ((1 : Int32), h7)) else none)))
theorem t_L_frequency {N : Nat} {ρ : Nat} {δ : Nat} {x1 : Int32} {h : xm_H} {w : Int32 × xm_H}  (hS : xS ρ δ h) (hf : f_L_frequency N ρ x1 h = some w) : xm_Rn xX 4 356 [.ref 160, .int x1, .ref 317] h (xji w.1) w.2 ∧ xS ρ δ w.2 := by
  refine xt_mk (φ := fun h => xS ρ δ h) (M := xM_L_frequency) (ls := [some (.ref 160), some (.int x1), some (.ref 317), none]) rfl (Nat.le_of_ble_eq_true rfl) rfl (fun Q hQ => ?_)
  unfold f_L_frequency at hf
  refine xw_G (pc' := 1) (st' := [.ref 317]) rfl rfl trivial ?_
  refine xw_G (pc' := 2) (st' := [.int (0 : Int32), .ref 317]) rfl rfl trivial ?_
  refine xw_G (pc' := 3) (st' := [.ref 160, .int (0 : Int32), .ref 317]) rfl rfl trivial ?_
  refine xw_G (pc' := 4) (st' := [.int x1, .ref 160, .int (0 : Int32), .ref 317]) rfl rfl trivial ?_
  refine xe_e hf (fun v1 h2 e3 hf => ?_) (fun q6 h7 e3 hf => ?_)
  · refine xw_V (v := some (.double v1)) rfl rfl (xkf (xs_k hS rfl rfl : xm_k h 160 = (0, 0))) (Nat.le_of_ble_eq_true rfl) (Nat.le_of_ble_eq_true rfl) (xm_Rn_le (Nat.le_of_ble_eq_true rfl) (t_X10_frequency  hS e3).1) ?_
    have hS := (t_X10_frequency  hS e3).2
    show xm_W _ _ _ 7 _ [.double v1, .int (0 : Int32), .ref 317] _
    refine xa_d rfl (xkf (xs_k hS rfl rfl : xm_k h2 317 = (105, 1))) (xkn (xs_k hS rfl rfl : xm_k h2 317 = (105, 1))) (by decide : xin (0 : Int32) 1) (Nat.le_of_ble_eq_true rfl) hf (fun h4 e5 hf => ?_)
    have hS := xS_sd hS e5
    refine xw_G (pc' := 14) (st' := []) rfl rfl trivial ?_
    refine xw_G (pc' := 15) (st' := [.int (0 : Int32)]) rfl rfl trivial ?_
    exact xr_i (inj := xji) rfl rfl rfl rfl hf hQ hS
  · by_cases hc8 : (q6).1 = 14
    · rw [if_pos hc8] at hf
      refine xw_VH (x := q6) (p := 11) rfl rfl (xkf (xs_k hS rfl rfl : xm_k h 160 = (0, 0))) (Nat.le_of_ble_eq_true rfl) (Nat.le_of_ble_eq_true rfl) (xm_Rn_le (Nat.le_of_ble_eq_true rfl) (t_X10_frequency  hS e3).1) (by rw [hc8]; rfl) ?_
      have hS := (t_X10_frequency  hS e3).2
      refine xw_G (pc' := 12) (ls' := [some (.ref 160), some (.int x1), some (.ref 317), some (.ref ((q6).2))]) (st' := []) rfl rfl (Nat.le_of_ble_eq_true rfl) ?_
      refine xw_G (pc' := 13) (st' := [.int (1 : Int32)]) rfl rfl trivial ?_
      exact xr_i (inj := xji) rfl rfl rfl rfl hf hQ hS
    · rw [if_neg hc8] at hf
      exact (xn_e hf).elim
def f_X11_frequency (N : Nat) (x1 : Int32) (h : xm_H) : Option (UInt64 × xm_H) := (xb (f_X11_isCampaign x1 h) fun v1 h2 => (xb (f_X11_good v1 h2) fun v4 h5 => (if v4 = 0 then (some (FP.dconst0, h5)) else (xb (f_X11_reachOf N x1 h5) fun v8 h9 => (if v8 = 0 then (some (FP.dconst0, h9)) else (xb (f_X11_impressionsOf N x1 h9) fun v12 h13 => (if (FP.ddiv (FP.i2d v12) (FP.i2d v8)) &&& 0x7fffffffffffffff ≤ 0x7ff0000000000000 then (some (FP.ddiv (FP.i2d v12) (FP.i2d v8), h13)) else none)))))))
theorem t_X11_frequency {N : Nat} {ρ : Nat} {δ : Nat} {x1 : Int32} {h : xm_H} {w : UInt64 × xm_H}  (hS : xS ρ δ h) (hf : f_X11_frequency N x1 h = some w) : xm_Rn xX 3 234 [.ref 302, .int x1] h (xjd w.1) w.2 ∧ xS ρ δ w.2 := by
  refine xt_mk (φ := fun h => xS ρ δ h) (M := xM_X11_frequency) (ls := [some (.ref 302), some (.int x1), none]) rfl (Nat.le_of_ble_eq_true rfl) rfl (fun Q hQ => ?_)
  unfold f_X11_frequency at hf
  refine xw_G (pc' := 1) (st' := [.ref 302]) rfl rfl trivial ?_
  refine xw_G (pc' := 2) (st' := [.ref 302, .ref 302]) rfl rfl trivial ?_
  refine xw_G (pc' := 3) (st' := [.int x1, .ref 302, .ref 302]) rfl rfl trivial ?_
  refine xb_e hf (fun v1 h2 e3 hf => ?_)
  refine xw_V (v := some (.int v1)) rfl rfl (xkf (xs_k hS rfl rfl : xm_k h 302 = (11, 0))) (Nat.le_of_ble_eq_true rfl) (Nat.le_of_ble_eq_true rfl) (xm_Rn_le (Nat.le_of_ble_eq_true rfl) (t_X11_isCampaign  hS e3).1) ?_
  have hS := (t_X11_isCampaign  hS e3).2
  show xm_W _ _ _ 6 _ [.int v1, .ref 302] _
  refine xb_e hf (fun v4 h5 e6 hf => ?_)
  refine xw_V (v := some (.int v4)) rfl rfl (xkf (xs_k hS rfl rfl : xm_k h2 302 = (11, 0))) (Nat.le_of_ble_eq_true rfl) (Nat.le_of_ble_eq_true rfl) (xm_Rn_le (Nat.le_of_ble_eq_true rfl) (t_X11_good  hS e6).1) ?_
  have hS := (t_X11_good  hS e6).2
  show xm_W _ _ _ 9 _ [.int v4] _
  refine xj_if_ne rfl hf (fun hc7 hf => ?_) (fun hc7 hf => ?_)
  · refine xw_G (pc' := 13) (st' := [.double FP.dconst0]) rfl rfl trivial ?_
    exact xr_d (inj := xjd) rfl rfl hf hQ hS
  · refine xw_G (pc' := 15) (st' := [.ref 302]) rfl rfl trivial ?_
    refine xw_G (pc' := 16) (st' := [.int x1, .ref 302]) rfl rfl trivial ?_
    refine xb_e hf (fun v8 h9 e10 hf => ?_)
    refine xw_V (v := some (.int v8)) rfl rfl (xkf (xs_k hS rfl rfl : xm_k h5 302 = (11, 0))) (Nat.le_of_ble_eq_true rfl) (Nat.le_of_ble_eq_true rfl) (xm_Rn_le (Nat.le_of_ble_eq_true rfl) (t_X11_reachOf  hS e10).1) ?_
    have hS := (t_X11_reachOf  hS e10).2
    show xm_W _ _ _ 19 _ [.int v8] _
    refine xw_G (pc' := 20) (ls' := [some (.ref 302), some (.int x1), some (.int v8)]) (st' := []) rfl rfl (Nat.le_of_ble_eq_true rfl) ?_
    refine xw_G (pc' := 21) (st' := [.int v8]) rfl rfl trivial ?_
    refine xj_if_ne rfl hf (fun hc11 hf => ?_) (fun hc11 hf => ?_)
    · refine xw_G (pc' := 25) (st' := [.double FP.dconst0]) rfl rfl trivial ?_
      refine xw_G (pc' := 37) (st' := [.double FP.dconst0]) rfl rfl trivial ?_
      exact xr_d (inj := xjd) rfl rfl hf hQ hS
    · refine xw_G (pc' := 29) (st' := [.ref 302]) rfl rfl trivial ?_
      refine xw_G (pc' := 30) (st' := [.int x1, .ref 302]) rfl rfl trivial ?_
      refine xb_e hf (fun v12 h13 e14 hf => ?_)
      refine xw_V (v := some (.int v12)) rfl rfl (xkf (xs_k hS rfl rfl : xm_k h9 302 = (11, 0))) (Nat.le_of_ble_eq_true rfl) (Nat.le_of_ble_eq_true rfl) (xm_Rn_le (Nat.le_of_ble_eq_true rfl) (t_X11_impressionsOf  hS e14).1) ?_
      have hS := (t_X11_impressionsOf  hS e14).2
      show xm_W _ _ _ 33 _ [.int v12] _
      refine xw_G (pc' := 34) (st' := [.double (FP.i2d v12)]) rfl rfl trivial ?_
      refine xw_G (pc' := 35) (st' := [.int v8, .double (FP.i2d v12)]) rfl rfl trivial ?_
      refine xw_G (pc' := 36) (st' := [.double (FP.i2d v8), .double (FP.i2d v12)]) rfl rfl trivial ?_
      refine xg_e hf (fun hg15 hf => ?_)
      refine xw_G (pc' := 37) (st' := [.double (FP.ddiv (FP.i2d v12) (FP.i2d v8))]) rfl rfl hg15 ?_
      exact xr_d (inj := xjd) rfl rfl hf hQ hS
def f_X10_recent (N : Nat) (ρ : Nat) (x1 : Int32) (x2 : Int32) (h : xm_H) : Option ((Int32 ⊕ Nat × Nat) × xm_H) := (xe (f_X10_requireCampaign ρ x1 h) (fun v1 h2 => (xe (f_X10_requireUser x2 h2) (fun v4 h5 => (xb (f_X2_countRecents N ρ x2 h5) fun v7 h8 => (if xin x1 8 then (some (.inl (xm_i h8 215 (Int32.toNatClampNeg x1)), h8)) else none))) (fun q11 h12 => (some (.inr q11, h12))))) (fun q14 h15 => (some (.inr q14, h15))))
theorem t_X10_recent {N : Nat} {ρ : Nat} {δ : Nat} {x1 : Int32} {x2 : Int32} {h : xm_H} {w : (Int32 ⊕ Nat × Nat) × xm_H}  (hS : xS ρ δ h) (hf : f_X10_recent N ρ x1 x2 h = some w) : xm_Rn xX 3 115 [.ref 160, .int x1, .int x2] h (xti w.1) w.2 ∧ xS ρ δ w.2 := by
  refine xt_mk (φ := fun h => xS ρ δ h) (M := xM_X10_recent) (ls := [some (.ref 160), some (.int x1), some (.int x2)]) rfl (Nat.le_of_ble_eq_true rfl) rfl (fun Q hQ => ?_)
  unfold f_X10_recent at hf
  refine xw_G (pc' := 1) (st' := [.ref 160]) rfl rfl trivial ?_
  refine xw_G (pc' := 2) (st' := [.int x1, .ref 160]) rfl rfl trivial ?_
  refine xe_e hf (fun v1 h2 e3 hf => ?_) (fun q14 h15 e3 hf => ?_)
  · refine xw_V (v := none) rfl rfl (xkf (xs_k hS rfl rfl : xm_k h 160 = (0, 0))) (Nat.le_of_ble_eq_true rfl) (Nat.le_of_ble_eq_true rfl) (xm_Rn_le (Nat.le_of_ble_eq_true rfl) (t_X10_requireCampaign  hS e3).1) ?_
    have hS := (t_X10_requireCampaign  hS e3).2
    show xm_W _ _ _ 5 _ [] _
    refine xw_G (pc' := 6) (st' := [.int x2]) rfl rfl trivial ?_
    refine xe_e hf (fun v4 h5 e6 hf => ?_) (fun q11 h12 e6 hf => ?_)
    · refine xw_S (v := none) rfl (Nat.le_of_ble_eq_true rfl) (Nat.le_of_ble_eq_true rfl) (xm_Rn_le (Nat.le_of_ble_eq_true rfl) (t_X10_requireUser  hS e6).1) ?_
      have hS := (t_X10_requireUser  hS e6).2
      show xm_W _ _ _ 9 _ [] _
      refine xw_G (pc' := 10) (st' := [.ref 160]) rfl rfl trivial ?_
      refine xw_gr rfl (xkf (xs_k hS rfl rfl : xm_k h5 160 = (0, 0))) (xs_r hS rfl) ?_
      refine xw_G (pc' := 14) (st' := [.int x2, .ref 182]) rfl rfl trivial ?_
      refine xb_e hf (fun v7 h8 e9 hf => ?_)
      refine xw_V (v := none) rfl rfl (xkf (xs_k hS rfl rfl : xm_k h5 182 = (3, 0))) (Nat.le_of_ble_eq_true rfl) (Nat.le_of_ble_eq_true rfl) (xm_Rn_le (Nat.le_of_ble_eq_true rfl) (t_X2_countRecents  hS e9).1) ?_
      have hS := (t_X2_countRecents  hS e9).2
      show xm_W _ _ _ 17 _ [] _
      refine xw_G (pc' := 18) (st' := [.ref 160]) rfl rfl trivial ?_
      refine xw_gr rfl (xkf (xs_k hS rfl rfl : xm_k h8 160 = (0, 0))) (xs_r hS rfl) ?_
      refine xw_gr rfl (xkf (xs_k hS rfl rfl : xm_k h8 182 = (3, 0))) (xs_r hS rfl) ?_
      refine xw_G (pc' := 25) (st' := [.int x1, .ref 215]) rfl rfl trivial ?_
      refine xg_e hf (fun hg10 hf => ?_)
      refine xa_ld (t := 100) (τ := 0) (v := .int (xm_i h8 215 (Int32.toNatClampNeg x1))) rfl rfl (xkf (xs_k hS rfl rfl : xm_k h8 215 = (100, 8))) (xkn (xs_k hS rfl rfl : xm_k h8 215 = (100, 8))) hg10 rfl ?_
      exact xr_i (inj := xti) rfl rfl rfl rfl hf hQ hS
    · refine xw_SX (x := q11) rfl (Nat.le_of_ble_eq_true rfl) (Nat.le_of_ble_eq_true rfl) (xm_Rn_le (Nat.le_of_ble_eq_true rfl) (t_X10_requireUser  hS e6).1) rfl ?_
      have hS := (t_X10_requireUser  hS e6).2
      exact xr_x (inj := xti) rfl hf hQ hS
  · refine xw_VX (x := q14) rfl rfl (xkf (xs_k hS rfl rfl : xm_k h 160 = (0, 0))) (Nat.le_of_ble_eq_true rfl) (Nat.le_of_ble_eq_true rfl) (xm_Rn_le (Nat.le_of_ble_eq_true rfl) (t_X10_requireCampaign  hS e3).1) rfl ?_
    have hS := (t_X10_requireCampaign  hS e3).2
    exact xr_x (inj := xti) rfl hf hQ hS
def f_L_recent (N : Nat) (ρ : Nat) (x1 : Int32) (x2 : Int32) (h : xm_H) : Option (Int32 × xm_H) := (xe (f_X10_recent N ρ x1 x2 h) (fun v1 h2 => (xl (xm_sl h2 316 0 (Int32.toInt64 v1)) fun h4 => (some ((0 : Int32), h4)))) (fun q6 h7 => (if (q6).1 = 14 then (some ((1 : Int32), h7)) else (if (q6).1 = 15 then (some ((2 : Int32), h7)) else none))))
theorem t_L_recent {N : Nat} {ρ : Nat} {δ : Nat} {x1 : Int32} {x2 : Int32} {h : xm_H} {w : Int32 × xm_H}  (hS : xS ρ δ h) (hf : f_L_recent N ρ x1 x2 h = some w) : xm_Rn xX 4 357 [.ref 160, .int x1, .int x2, .ref 316] h (xji w.1) w.2 ∧ xS ρ δ w.2 := by
  refine xt_mk (φ := fun h => xS ρ δ h) (M := xM_L_recent) (ls := [some (.ref 160), some (.int x1), some (.int x2), some (.ref 316), none]) rfl (Nat.le_of_ble_eq_true rfl) rfl (fun Q hQ => ?_)
  unfold f_L_recent at hf
  refine xw_G (pc' := 1) (st' := [.ref 316]) rfl rfl trivial ?_
  refine xw_G (pc' := 2) (st' := [.int (0 : Int32), .ref 316]) rfl rfl trivial ?_
  refine xw_G (pc' := 3) (st' := [.ref 160, .int (0 : Int32), .ref 316]) rfl rfl trivial ?_
  refine xw_G (pc' := 4) (st' := [.int x1, .ref 160, .int (0 : Int32), .ref 316]) rfl rfl trivial ?_
  refine xw_G (pc' := 5) (st' := [.int x2, .int x1, .ref 160, .int (0 : Int32), .ref 316]) rfl rfl trivial ?_
  refine xe_e hf (fun v1 h2 e3 hf => ?_) (fun q6 h7 e3 hf => ?_)
  · refine xw_V (v := some (.int v1)) rfl rfl (xkf (xs_k hS rfl rfl : xm_k h 160 = (0, 0))) (Nat.le_of_ble_eq_true rfl) (Nat.le_of_ble_eq_true rfl) (xm_Rn_le (Nat.le_of_ble_eq_true rfl) (t_X10_recent  hS e3).1) ?_
    have hS := (t_X10_recent  hS e3).2
    show xm_W _ _ _ 8 _ [.int v1, .int (0 : Int32), .ref 316] _
    refine xw_G (pc' := 9) (st' := [.long (Int32.toInt64 v1), .int (0 : Int32), .ref 316]) rfl rfl trivial ?_
    refine xa_l rfl (xkf (xs_k hS rfl rfl : xm_k h2 316 = (104, 1))) (xkn (xs_k hS rfl rfl : xm_k h2 316 = (104, 1))) (by decide : xin (0 : Int32) 1) (Nat.le_of_ble_eq_true rfl) hf (fun h4 e5 hf => ?_)
    have hS := xS_sl hS e5
    refine xw_G (pc' := 21) (st' := []) rfl rfl trivial ?_
    refine xw_G (pc' := 22) (st' := [.int (0 : Int32)]) rfl rfl trivial ?_
    exact xr_i (inj := xji) rfl rfl rfl rfl hf hQ hS
  · by_cases hc8 : (q6).1 = 14
    · rw [if_pos hc8] at hf
      refine xw_VH (x := q6) (p := 13) rfl rfl (xkf (xs_k hS rfl rfl : xm_k h 160 = (0, 0))) (Nat.le_of_ble_eq_true rfl) (Nat.le_of_ble_eq_true rfl) (xm_Rn_le (Nat.le_of_ble_eq_true rfl) (t_X10_recent  hS e3).1) (by rw [hc8]; rfl) ?_
      have hS := (t_X10_recent  hS e3).2
      refine xw_G (pc' := 15) (ls' := [some (.ref 160), some (.int x1), some (.int x2), some (.ref 316), some (.ref ((q6).2))]) (st' := []) rfl rfl (Nat.le_of_ble_eq_true rfl) ?_
      refine xw_G (pc' := 16) (st' := [.int (1 : Int32)]) rfl rfl trivial ?_
      exact xr_i (inj := xji) rfl rfl rfl rfl hf hQ hS
    · rw [if_neg hc8] at hf
      by_cases hc8 : (q6).1 = 15
      · rw [if_pos hc8] at hf
        refine xw_VH (x := q6) (p := 17) rfl rfl (xkf (xs_k hS rfl rfl : xm_k h 160 = (0, 0))) (Nat.le_of_ble_eq_true rfl) (Nat.le_of_ble_eq_true rfl) (xm_Rn_le (Nat.le_of_ble_eq_true rfl) (t_X10_recent  hS e3).1) (by rw [hc8]; rfl) ?_
        have hS := (t_X10_recent  hS e3).2
        refine xw_G (pc' := 19) (ls' := [some (.ref 160), some (.int x1), some (.int x2), some (.ref 316), some (.ref ((q6).2))]) (st' := []) rfl rfl (Nat.le_of_ble_eq_true rfl) ?_
        refine xw_G (pc' := 20) (st' := [.int (2 : Int32)]) rfl rfl trivial ?_
        exact xr_i (inj := xji) rfl rfl rfl rfl hf hQ hS
      · rw [if_neg hc8] at hf
        exact (xn_e hf).elim
def f_X11_recent (N : Nat) (x1 : Int32) (x2 : Int32) (h : xm_H) : Option (Int32 × xm_H) := (xb (f_X11_isCampaign x1 h) fun v1 h2 => (xb (f_X11_isUser x2 h2) fun v4 h5 => (xb (f_X11_good_ v1 v4 h5) fun v7 h8 => (if v7 = 0 then (some ((0 : Int32), h8)) else (xb (f_X11_recentOf N x1 x2 h8) fun v11 h12 => (some (v11, h12)))))))
theorem t_X11_recent {N : Nat} {ρ : Nat} {δ : Nat} {x1 : Int32} {x2 : Int32} {h : xm_H} {w : Int32 × xm_H}  (hS : xS ρ δ h) (hf : f_X11_recent N x1 x2 h = some w) : xm_Rn xX 3 235 [.ref 302, .int x1, .int x2] h (xji w.1) w.2 ∧ xS ρ δ w.2 := by
  refine xt_mk (φ := fun h => xS ρ δ h) (M := xM_X11_recent) (ls := [some (.ref 302), some (.int x1), some (.int x2)]) rfl (Nat.le_of_ble_eq_true rfl) rfl (fun Q hQ => ?_)
  unfold f_X11_recent at hf
  refine xw_G (pc' := 1) (st' := [.ref 302]) rfl rfl trivial ?_
  refine xw_G (pc' := 2) (st' := [.ref 302, .ref 302]) rfl rfl trivial ?_
  refine xw_G (pc' := 3) (st' := [.int x1, .ref 302, .ref 302]) rfl rfl trivial ?_
  refine xb_e hf (fun v1 h2 e3 hf => ?_)
  refine xw_V (v := some (.int v1)) rfl rfl (xkf (xs_k hS rfl rfl : xm_k h 302 = (11, 0))) (Nat.le_of_ble_eq_true rfl) (Nat.le_of_ble_eq_true rfl) (xm_Rn_le (Nat.le_of_ble_eq_true rfl) (t_X11_isCampaign  hS e3).1) ?_
  have hS := (t_X11_isCampaign  hS e3).2
  show xm_W _ _ _ 6 _ [.int v1, .ref 302] _
  refine xw_G (pc' := 7) (st' := [.int x2, .int v1, .ref 302]) rfl rfl trivial ?_
  refine xb_e hf (fun v4 h5 e6 hf => ?_)
  refine xw_S (v := some (.int v4)) rfl (Nat.le_of_ble_eq_true rfl) (Nat.le_of_ble_eq_true rfl) (xm_Rn_le (Nat.le_of_ble_eq_true rfl) (t_X11_isUser  hS e6).1) ?_
  have hS := (t_X11_isUser  hS e6).2
  show xm_W _ _ _ 10 _ [.int v4, .int v1, .ref 302] _
  refine xb_e hf (fun v7 h8 e9 hf => ?_)
  refine xw_V (v := some (.int v7)) rfl rfl (xkf (xs_k hS rfl rfl : xm_k h5 302 = (11, 0))) (Nat.le_of_ble_eq_true rfl) (Nat.le_of_ble_eq_true rfl) (xm_Rn_le (Nat.le_of_ble_eq_true rfl) (t_X11_good_  hS e9).1) ?_
  have hS := (t_X11_good_  hS e9).2
  show xm_W _ _ _ 13 _ [.int v7] _
  refine xj_if_eq rfl hf (fun hc10 hf => ?_) (fun hc10 hf => ?_)
  · refine xw_G (pc' := 26) (st' := [.int (0 : Int32)]) rfl rfl trivial ?_
    exact xr_i (inj := xji) rfl rfl rfl rfl hf hQ hS
  · refine xw_G (pc' := 17) (st' := [.ref 302]) rfl rfl trivial ?_
    refine xw_G (pc' := 18) (st' := [.int x1, .ref 302]) rfl rfl trivial ?_
    refine xw_G (pc' := 19) (st' := [.int x2, .int x1, .ref 302]) rfl rfl trivial ?_
    refine xb_e hf (fun v11 h12 e13 hf => ?_)
    refine xw_V (v := some (.int v11)) rfl rfl (xkf (xs_k hS rfl rfl : xm_k h8 302 = (11, 0))) (Nat.le_of_ble_eq_true rfl) (Nat.le_of_ble_eq_true rfl) (xm_Rn_le (Nat.le_of_ble_eq_true rfl) (t_X11_recentOf  hS e13).1) ?_
    have hS := (t_X11_recentOf  hS e13).2
    show xm_W _ _ _ 22 _ [.int v11] _
    refine xw_G (pc' := 26) (st' := [.int v11]) rfl rfl trivial ?_
    exact xr_i (inj := xji) rfl rfl rfl rfl hf hQ hS
def f_X4_countTo_5B (N : Nat) (c1 : Int32) (c2 : Int32) (rec : Int32 → Int32 → xm_H → Option (Int32 × xm_H)) (c3 : Int32) (c4 : Int32) (h : xm_H) : Option (Int32 × xm_H) := (if c4 < c2 then (if xin c4 400 then (if (xm_i h 211 (Int32.toNatClampNeg c4)) = c1 then (rec (c3 + (1 : Int32)) (c4 + (1 : Int32)) h) else (rec c3 (c4 + (1 : Int32)) h)) else none) else (some (c3, h)))
def f_X4_countTo_5 (N : Nat) (c1 : Int32) (c2 : Int32) : Nat → Int32 → Int32 → xm_H → Option (Int32 × xm_H)
  | 0 => fun _ _ _ => none
  | n + 1 => fun c3 c4 h => f_X4_countTo_5B N c1 c2 (f_X4_countTo_5 N c1 c2 n) c3 c4 h
def f_X4_countTo (N : Nat) (x1 : Int32) (x2 : Int32) (h : xm_H) : Option (Int32 × xm_H) := (f_X4_countTo_5 N x1 x2 N (0 : Int32) (0 : Int32) h)
theorem tl_X4_countTo_5 {ρ : Nat} {δ : Nat} {N : Nat} {c1 : Int32} {c2 : Int32} {Q : xm_O → xm_H → Prop} {w : Int32 × xm_H}  (hQ : xS ρ δ w.2 → Q (xji w.1) w.2)  : ∀ (n : Nat) (c3 : Int32) (c4 : Int32) (h : xm_H), xS ρ δ h → f_X4_countTo_5 N c1 c2 n c3 c4 h = some w → xm_W (xm_Rn xX 0) xM_X4_countTo Q 5 [some (.ref 209), some (.int c1), some (.int c2), some (.int c3), some (.int c4)] [] h := by
  intro n
  induction n with
  | zero =>
    intro c3 c4 h hS hf
    exact (xn_e hf).elim
  | succ n ih =>
    intro c3 c4 h hS hf
    replace hf : f_X4_countTo_5B N c1 c2 (f_X4_countTo_5 N c1 c2 n) c3 c4 h = some w := hf
    unfold f_X4_countTo_5B at hf
    refine xw_K (pc' := 7) (ls' := [some (.ref 209), some (.int c1), some (.int c2), some (.int c3), some (.int c4)]) (st' := [.int c4]) rfl rfl trivial ?_
    refine xw_G (pc' := 8) (st' := [.int c2, .int c4]) rfl rfl trivial ?_
    refine xj_ic_ge rfl hf (fun hc1 hf => ?_) (fun hc1 hf => ?_)
    · refine xw_G (pc' := 12) (st' := [.ref 209]) rfl rfl trivial ?_
      refine xw_gr rfl (xkf (xs_k hS rfl rfl : xm_k h 209 = (5, 0))) (xs_r hS rfl) ?_
      refine xw_G (pc' := 17) (st' := [.int c4, .ref 211]) rfl rfl trivial ?_
      refine xg_e hf (fun hg2 hf => ?_)
      refine xa_ld (t := 100) (τ := 0) (v := .int (xm_i h 211 (Int32.toNatClampNeg c4))) rfl rfl (xkf (xs_k hS rfl rfl : xm_k h 211 = (100, 400))) (xkn (xs_k hS rfl rfl : xm_k h 211 = (100, 400))) hg2 rfl ?_
      refine xw_G (pc' := 19) (st' := [.int c1, .int (xm_i h 211 (Int32.toNatClampNeg c4))]) rfl rfl trivial ?_
      refine xj_ic_ne rfl hf (fun hc3 hf => ?_) (fun hc3 hf => ?_)
      · refine xw_G (pc' := 25) (ls' := [some (.ref 209), some (.int c1), some (.int c2), some (.int (c3 + (1 : Int32))), some (.int c4)]) (st' := []) rfl rfl (Nat.le_of_ble_eq_true rfl) ?_
        refine xw_G (pc' := 28) (ls' := [some (.ref 209), some (.int c1), some (.int c2), some (.int (c3 + (1 : Int32))), some (.int (c4 + (1 : Int32)))]) (st' := []) rfl rfl (Nat.le_of_ble_eq_true rfl) ?_
        refine xw_G (pc' := 5) (st' := []) rfl rfl trivial ?_
        refine xw_M rfl rfl ?_
        exact ih _ _ _ hS hf
      · refine xw_G (pc' := 28) (ls' := [some (.ref 209), some (.int c1), some (.int c2), some (.int c3), some (.int (c4 + (1 : Int32)))]) (st' := []) rfl rfl (Nat.le_of_ble_eq_true rfl) ?_
        refine xw_G (pc' := 5) (st' := []) rfl rfl trivial ?_
        refine xw_M rfl rfl ?_
        exact ih _ _ _ hS hf
    · refine xw_G (pc' := 32) (st' := [.int c3]) rfl rfl trivial ?_
      exact xr_i (inj := xji) rfl rfl rfl rfl hf hQ hS
theorem t_X4_countTo {N : Nat} {ρ : Nat} {δ : Nat} {x1 : Int32} {x2 : Int32} {h : xm_H} {w : Int32 × xm_H}  (hS : xS ρ δ h) (hf : f_X4_countTo N x1 x2 h = some w) : xm_Rn xX 1 34 [.ref 209, .int x1, .int x2] h (xji w.1) w.2 ∧ xS ρ δ w.2 := by
  refine xt_mk (φ := fun h => xS ρ δ h) (M := xM_X4_countTo) (ls := [some (.ref 209), some (.int x1), some (.int x2), none, none]) rfl (Nat.le_of_ble_eq_true rfl) rfl (fun Q hQ => ?_)
  unfold f_X4_countTo at hf
  refine xw_G (pc' := 1) (st' := [.int (0 : Int32)]) rfl rfl trivial ?_
  refine xw_G (pc' := 2) (ls' := [some (.ref 209), some (.int x1), some (.int x2), some (.int (0 : Int32)), none]) (st' := []) rfl rfl (Nat.le_of_ble_eq_true rfl) ?_
  refine xw_G (pc' := 3) (st' := [.int (0 : Int32)]) rfl rfl trivial ?_
  refine xw_G (pc' := 5) (ls' := [some (.ref 209), some (.int x1), some (.int x2), some (.int (0 : Int32)), some (.int (0 : Int32))]) (st' := []) rfl rfl (Nat.le_of_ble_eq_true rfl) ?_
  refine xw_M rfl rfl ?_
  refine tl_X4_countTo_5  hQ  _ _ _ _ hS hf
def f_X10_topUser_6B (N : Nat) (rec : Int32 → Int32 → Int32 → xm_H → Option (Int32 × xm_H)) (c1 : Int32) (c2 : Int32) (c3 : Int32) (h : xm_H) : Option (Int32 × xm_H) := (if c3 < (16 : Int32) then (xb (f_X4_countTo N c3 (xm_i h 201 2) h) fun v2 h3 => (if c2 < v2 then (rec c3 v2 (c3 + (1 : Int32)) h3) else (rec c1 c2 (c3 + (1 : Int32)) h3))) else (some (c1, h)))
def f_X10_topUser_6 (N : Nat) : Nat → Int32 → Int32 → Int32 → xm_H → Option (Int32 × xm_H)
  | 0 => fun _ _ _ _ => none
  | n + 1 => fun c1 c2 c3 h => f_X10_topUser_6B N (f_X10_topUser_6 N n) c1 c2 c3 h
def f_X10_topUser (N : Nat) (h : xm_H) : Option (Int32 × xm_H) := (f_X10_topUser_6 N N (-1 : Int32) (0 : Int32) (0 : Int32) h)
theorem tl_X10_topUser_6 {ρ : Nat} {δ : Nat} {N : Nat} {Q : xm_O → xm_H → Prop} {w : Int32 × xm_H}  (hQ : xS ρ δ w.2 → Q (xji w.1) w.2)  : ∀ (n : Nat) (c1 : Int32) (c2 : Int32) (c3 : Int32) (h : xm_H), xS ρ δ h → f_X10_topUser_6 N n c1 c2 c3 h = some w → xm_W (xm_Rn xX 1) xM_X10_topUser Q 6 [some (.ref 160), some (.int c1), some (.int c2), some (.int c3), none] [] h := by
  intro n
  induction n with
  | zero =>
    intro c1 c2 c3 h hS hf
    exact (xn_e hf).elim
  | succ n ih =>
    intro c1 c2 c3 h hS hf
    replace hf : f_X10_topUser_6B N (f_X10_topUser_6 N n) c1 c2 c3 h = some w := hf
    unfold f_X10_topUser_6B at hf
    refine xw_K (pc' := 7) (ls' := [some (.ref 160), some (.int c1), some (.int c2), some (.int c3), none]) (st' := [.int c3]) rfl rfl trivial ?_
    refine xw_G (pc' := 9) (st' := [.int (16 : Int32), .int c3]) rfl rfl trivial ?_
    refine xj_ic_ge rfl hf (fun hc1 hf => ?_) (fun hc1 hf => ?_)
    · refine xw_G (pc' := 13) (st' := [.ref 160]) rfl rfl trivial ?_
      refine xw_gr rfl (xkf (xs_k hS rfl rfl : xm_k h 160 = (0, 0))) (xs_r hS rfl) ?_
      refine xw_gr rfl (xkf (xs_k hS rfl rfl : xm_k h 182 = (3, 0))) (xs_r hS rfl) ?_
      refine xw_G (pc' := 20) (st' := [.int c3, .ref 209]) rfl rfl trivial ?_
      refine xw_G (pc' := 21) (st' := [.ref 160, .int c3, .ref 209]) rfl rfl trivial ?_
      refine xw_gr rfl (xkf (xs_k hS rfl rfl : xm_k h 160 = (0, 0))) (xs_r hS rfl) ?_
      refine xw_gr rfl (xkf (xs_k hS rfl rfl : xm_k h 182 = (3, 0))) (xs_r hS rfl) ?_
      refine xw_G (pc' := 30) (st' := [.int (xm_i h 201 2), .int c3, .ref 209]) rfl rfl (xkf (xs_k hS rfl rfl : xm_k h 201 = (8, 0))) ?_
      refine xb_e hf (fun v2 h3 e4 hf => ?_)
      refine xw_V (v := some (.int v2)) rfl rfl (xkf (xs_k hS rfl rfl : xm_k h 209 = (5, 0))) (Nat.le_of_ble_eq_true rfl) (Nat.le_of_ble_eq_true rfl) (xm_Rn_le (Nat.le_of_ble_eq_true rfl) (t_X4_countTo  hS e4).1) ?_
      have hS := (t_X4_countTo  hS e4).2
      show xm_W _ _ _ 33 _ [.int v2] _
      refine xw_G (pc' := 35) (ls' := [some (.ref 160), some (.int c1), some (.int c2), some (.int c3), some (.int v2)]) (st' := []) rfl rfl (Nat.le_of_ble_eq_true rfl) ?_
      refine xw_G (pc' := 37) (st' := [.int v2]) rfl rfl trivial ?_
      refine xw_G (pc' := 38) (st' := [.int c2, .int v2]) rfl rfl trivial ?_
      refine xj_ic_le rfl hf (fun hc5 hf => ?_) (fun hc5 hf => ?_)
      · refine xw_G (pc' := 42) (st' := [.int c3]) rfl rfl trivial ?_
        refine xw_G (pc' := 43) (ls' := [some (.ref 160), some (.int c3), some (.int c2), some (.int c3), some (.int v2)]) (st' := []) rfl rfl (Nat.le_of_ble_eq_true rfl) ?_
        refine xw_G (pc' := 45) (st' := [.int v2]) rfl rfl trivial ?_
        refine xw_G (pc' := 46) (ls' := [some (.ref 160), some (.int c3), some (.int v2), some (.int c3), some (.int v2)]) (st' := []) rfl rfl (Nat.le_of_ble_eq_true rfl) ?_
        refine xw_G (pc' := 49) (ls' := [some (.ref 160), some (.int c3), some (.int v2), some (.int (c3 + (1 : Int32))), some (.int v2)]) (st' := []) rfl rfl (Nat.le_of_ble_eq_true rfl) ?_
        refine xw_G (pc' := 6) (st' := []) rfl rfl trivial ?_
        refine xw_M rfl rfl ?_
        exact ih _ _ _ _ hS hf
      · refine xw_G (pc' := 49) (ls' := [some (.ref 160), some (.int c1), some (.int c2), some (.int (c3 + (1 : Int32))), some (.int v2)]) (st' := []) rfl rfl (Nat.le_of_ble_eq_true rfl) ?_
        refine xw_G (pc' := 6) (st' := []) rfl rfl trivial ?_
        refine xw_M rfl rfl ?_
        exact ih _ _ _ _ hS hf
    · refine xw_G (pc' := 53) (st' := [.int c1]) rfl rfl trivial ?_
      exact xr_i (inj := xji) rfl rfl rfl rfl hf hQ hS
theorem t_X10_topUser {N : Nat} {ρ : Nat} {δ : Nat} {h : xm_H} {w : Int32 × xm_H}  (hS : xS ρ δ h) (hf : f_X10_topUser N h = some w) : xm_Rn xX 2 116 [.ref 160] h (xji w.1) w.2 ∧ xS ρ δ w.2 := by
  refine xt_mk (φ := fun h => xS ρ δ h) (M := xM_X10_topUser) (ls := [some (.ref 160), none, none, none, none]) rfl (Nat.le_of_ble_eq_true rfl) rfl (fun Q hQ => ?_)
  unfold f_X10_topUser at hf
  refine xw_G (pc' := 1) (st' := [.int (-1 : Int32)]) rfl rfl trivial ?_
  refine xw_G (pc' := 2) (ls' := [some (.ref 160), some (.int (-1 : Int32)), none, none, none]) (st' := []) rfl rfl (Nat.le_of_ble_eq_true rfl) ?_
  refine xw_G (pc' := 3) (st' := [.int (0 : Int32)]) rfl rfl trivial ?_
  refine xw_G (pc' := 4) (ls' := [some (.ref 160), some (.int (-1 : Int32)), some (.int (0 : Int32)), none, none]) (st' := []) rfl rfl (Nat.le_of_ble_eq_true rfl) ?_
  refine xw_G (pc' := 5) (st' := [.int (0 : Int32)]) rfl rfl trivial ?_
  refine xw_G (pc' := 6) (ls' := [some (.ref 160), some (.int (-1 : Int32)), some (.int (0 : Int32)), some (.int (0 : Int32)), none]) (st' := []) rfl rfl (Nat.le_of_ble_eq_true rfl) ?_
  refine xw_M rfl rfl ?_
  refine tl_X10_topUser_6  hQ  _ _ _ _ _ hS hf
def f_X11_impressionsTo_4B (N : Nat) (c1 : Int32) (rec : Int32 → Int32 → xm_H → Option (Int32 × xm_H)) (c2 : Int32) (c3 : Int32) (h : xm_H) : Option (Int32 × xm_H) := (if c3 < (xm_i h 303 1) then (xb (f_X11_impressionAt c3 (1 : Int32) h) fun v2 h3 => (if v2 = c1 then (rec (c2 + (1 : Int32)) (c3 + (1 : Int32)) h3) else (rec (c2 + (0 : Int32)) (c3 + (1 : Int32)) h3))) else (some (c2, h)))
def f_X11_impressionsTo_4 (N : Nat) (c1 : Int32) : Nat → Int32 → Int32 → xm_H → Option (Int32 × xm_H)
  | 0 => fun _ _ _ => none
  | n + 1 => fun c2 c3 h => f_X11_impressionsTo_4B N c1 (f_X11_impressionsTo_4 N c1 n) c2 c3 h
def f_X11_impressionsTo (N : Nat) (x1 : Int32) (h : xm_H) : Option (Int32 × xm_H) := (f_X11_impressionsTo_4 N x1 N (0 : Int32) (0 : Int32) h)
theorem tl_X11_impressionsTo_4 {ρ : Nat} {δ : Nat} {N : Nat} {c1 : Int32} {Q : xm_O → xm_H → Prop} {w : Int32 × xm_H}  (hQ : xS ρ δ w.2 → Q (xji w.1) w.2)  : ∀ (n : Nat) (c2 : Int32) (c3 : Int32) (h : xm_H), xS ρ δ h → f_X11_impressionsTo_4 N c1 n c2 c3 h = some w → xm_W (xm_Rn xX 1) xM_X11_impressionsTo Q 4 [some (.ref 302), some (.int c1), some (.int c2), some (.int c3)] [] h := by
  intro n
  induction n with
  | zero =>
    intro c2 c3 h hS hf
    exact (xn_e hf).elim
  | succ n ih =>
    intro c2 c3 h hS hf
    replace hf : f_X11_impressionsTo_4B N c1 (f_X11_impressionsTo_4 N c1 n) c2 c3 h = some w := hf
    unfold f_X11_impressionsTo_4B at hf
    refine xw_K (pc' := 5) (ls' := [some (.ref 302), some (.int c1), some (.int c2), some (.int c3)]) (st' := [.int c3]) rfl rfl trivial ?_
    refine xw_G (pc' := 6) (st' := [.ref 302, .int c3]) rfl rfl trivial ?_
    refine xw_gr rfl (xkf (xs_k hS rfl rfl : xm_k h 302 = (11, 0))) (xs_r hS rfl) ?_
    refine xw_G (pc' := 10) (st' := [.int (1 : Int32), .ref 303, .int c3]) rfl rfl trivial ?_
    refine xa_ld (t := 100) (τ := 0) (v := .int (xm_i h 303 1)) rfl rfl (xkf (xs_k hS rfl rfl : xm_k h 303 = (100, 2217))) (xkn (xs_k hS rfl rfl : xm_k h 303 = (100, 2217))) (by decide : xin (1 : Int32) 2217) rfl ?_
    refine xj_ic_ge rfl hf (fun hc1 hf => ?_) (fun hc1 hf => ?_)
    · refine xw_G (pc' := 15) (st' := [.int c2]) rfl rfl trivial ?_
      refine xw_G (pc' := 16) (st' := [.ref 302, .int c2]) rfl rfl trivial ?_
      refine xw_G (pc' := 17) (st' := [.int c3, .ref 302, .int c2]) rfl rfl trivial ?_
      refine xw_G (pc' := 18) (st' := [.int (1 : Int32), .int c3, .ref 302, .int c2]) rfl rfl trivial ?_
      refine xb_e hf (fun v2 h3 e4 hf => ?_)
      refine xw_V (v := some (.int v2)) rfl rfl (xkf (xs_k hS rfl rfl : xm_k h 302 = (11, 0))) (Nat.le_of_ble_eq_true rfl) (Nat.le_of_ble_eq_true rfl) (xm_Rn_le (Nat.le_of_ble_eq_true rfl) (t_X11_impressionAt  hS e4).1) ?_
      have hS := (t_X11_impressionAt  hS e4).2
      show xm_W _ _ _ 21 _ [.int v2, .int c2] _
      refine xw_G (pc' := 22) (st' := [.int c1, .int v2, .int c2]) rfl rfl trivial ?_
      refine xj_ic_ne rfl hf (fun hc5 hf => ?_) (fun hc5 hf => ?_)
      · refine xw_G (pc' := 26) (st' := [.int (1 : Int32), .int c2]) rfl rfl trivial ?_
        refine xw_G (pc' := 30) (st' := [.int (1 : Int32), .int c2]) rfl rfl trivial ?_
        refine xw_G (pc' := 31) (st' := [.int (c2 + (1 : Int32))]) rfl rfl trivial ?_
        refine xw_G (pc' := 32) (ls' := [some (.ref 302), some (.int c1), some (.int (c2 + (1 : Int32))), some (.int c3)]) (st' := []) rfl rfl (Nat.le_of_ble_eq_true rfl) ?_
        refine xw_G (pc' := 35) (ls' := [some (.ref 302), some (.int c1), some (.int (c2 + (1 : Int32))), some (.int (c3 + (1 : Int32)))]) (st' := []) rfl rfl (Nat.le_of_ble_eq_true rfl) ?_
        refine xw_G (pc' := 4) (st' := []) rfl rfl trivial ?_
        refine xw_M rfl rfl ?_
        exact ih _ _ _ hS hf
      · refine xw_G (pc' := 30) (st' := [.int (0 : Int32), .int c2]) rfl rfl trivial ?_
        refine xw_G (pc' := 31) (st' := [.int (c2 + (0 : Int32))]) rfl rfl trivial ?_
        refine xw_G (pc' := 32) (ls' := [some (.ref 302), some (.int c1), some (.int (c2 + (0 : Int32))), some (.int c3)]) (st' := []) rfl rfl (Nat.le_of_ble_eq_true rfl) ?_
        refine xw_G (pc' := 35) (ls' := [some (.ref 302), some (.int c1), some (.int (c2 + (0 : Int32))), some (.int (c3 + (1 : Int32)))]) (st' := []) rfl rfl (Nat.le_of_ble_eq_true rfl) ?_
        refine xw_G (pc' := 4) (st' := []) rfl rfl trivial ?_
        refine xw_M rfl rfl ?_
        exact ih _ _ _ hS hf
    · refine xw_G (pc' := 39) (st' := [.int c2]) rfl rfl trivial ?_
      exact xr_i (inj := xji) rfl rfl rfl rfl hf hQ hS
theorem t_X11_impressionsTo {N : Nat} {ρ : Nat} {δ : Nat} {x1 : Int32} {h : xm_H} {w : Int32 × xm_H}  (hS : xS ρ δ h) (hf : f_X11_impressionsTo N x1 h = some w) : xm_Rn xX 2 236 [.ref 302, .int x1] h (xji w.1) w.2 ∧ xS ρ δ w.2 := by
  refine xt_mk (φ := fun h => xS ρ δ h) (M := xM_X11_impressionsTo) (ls := [some (.ref 302), some (.int x1), none, none]) rfl (Nat.le_of_ble_eq_true rfl) rfl (fun Q hQ => ?_)
  unfold f_X11_impressionsTo at hf
  refine xw_G (pc' := 1) (st' := [.int (0 : Int32)]) rfl rfl trivial ?_
  refine xw_G (pc' := 2) (ls' := [some (.ref 302), some (.int x1), some (.int (0 : Int32)), none]) (st' := []) rfl rfl (Nat.le_of_ble_eq_true rfl) ?_
  refine xw_G (pc' := 3) (st' := [.int (0 : Int32)]) rfl rfl trivial ?_
  refine xw_G (pc' := 4) (ls' := [some (.ref 302), some (.int x1), some (.int (0 : Int32)), some (.int (0 : Int32))]) (st' := []) rfl rfl (Nat.le_of_ble_eq_true rfl) ?_
  refine xw_M rfl rfl ?_
  refine tl_X11_impressionsTo_4  hQ  _ _ _ _ hS hf
def f_X11_topUser_11B (N : Nat) (rec : Int32 → Int32 → Int32 → xm_H → Option (Int32 × xm_H)) (c1 : Int32) (c2 : Int32) (c3 : Int32) (h : xm_H) : Option (Int32 × xm_H) := (if c3 < (16 : Int32) then (xb (f_X11_impressionsTo N c3 h) fun v2 h3 => (if c2 < v2 then (rec c3 v2 (c3 + (1 : Int32)) h3) else (rec c1 c2 (c3 + (1 : Int32)) h3))) else (some (c1, h)))
def f_X11_topUser_11 (N : Nat) : Nat → Int32 → Int32 → Int32 → xm_H → Option (Int32 × xm_H)
  | 0 => fun _ _ _ _ => none
  | n + 1 => fun c1 c2 c3 h => f_X11_topUser_11B N (f_X11_topUser_11 N n) c1 c2 c3 h
def f_X11_topUser (N : Nat) (h : xm_H) : Option (Int32 × xm_H) := (xl (xm_si h 302 4 (0 : Int32)) fun h1 => (f_X11_topUser_11 N N (-1 : Int32) (0 : Int32) (0 : Int32) h1))
theorem tl_X11_topUser_11 {ρ : Nat} {δ : Nat} {N : Nat} {Q : xm_O → xm_H → Prop} {w : Int32 × xm_H}  (hQ : xS ρ δ w.2 → Q (xji w.1) w.2)  : ∀ (n : Nat) (c1 : Int32) (c2 : Int32) (c3 : Int32) (h : xm_H), xS ρ δ h → f_X11_topUser_11 N n c1 c2 c3 h = some w → xm_W (xm_Rn xX 2) xM_X11_topUser Q 11 [some (.ref 302), some (.int c1), some (.int c2), some (.int c3), none] [] h := by
  intro n
  induction n with
  | zero =>
    intro c1 c2 c3 h hS hf
    exact (xn_e hf).elim
  | succ n ih =>
    intro c1 c2 c3 h hS hf
    replace hf : f_X11_topUser_11B N (f_X11_topUser_11 N n) c1 c2 c3 h = some w := hf
    unfold f_X11_topUser_11B at hf
    refine xw_K (pc' := 12) (ls' := [some (.ref 302), some (.int c1), some (.int c2), some (.int c3), none]) (st' := [.int c3]) rfl rfl trivial ?_
    refine xw_G (pc' := 14) (st' := [.int (16 : Int32), .int c3]) rfl rfl trivial ?_
    refine xj_ic_ge rfl hf (fun hc1 hf => ?_) (fun hc1 hf => ?_)
    · refine xw_G (pc' := 18) (st' := [.ref 302]) rfl rfl trivial ?_
      refine xw_G (pc' := 19) (st' := [.int c3, .ref 302]) rfl rfl trivial ?_
      refine xb_e hf (fun v2 h3 e4 hf => ?_)
      refine xw_V (v := some (.int v2)) rfl rfl (xkf (xs_k hS rfl rfl : xm_k h 302 = (11, 0))) (Nat.le_of_ble_eq_true rfl) (Nat.le_of_ble_eq_true rfl) (xm_Rn_le (Nat.le_of_ble_eq_true rfl) (t_X11_impressionsTo  hS e4).1) ?_
      have hS := (t_X11_impressionsTo  hS e4).2
      show xm_W _ _ _ 22 _ [.int v2] _
      refine xw_G (pc' := 24) (ls' := [some (.ref 302), some (.int c1), some (.int c2), some (.int c3), some (.int v2)]) (st' := []) rfl rfl (Nat.le_of_ble_eq_true rfl) ?_
      refine xw_G (pc' := 26) (st' := [.int v2]) rfl rfl trivial ?_
      refine xw_G (pc' := 27) (st' := [.int c2, .int v2]) rfl rfl trivial ?_
      refine xj_ic_le rfl hf (fun hc5 hf => ?_) (fun hc5 hf => ?_)
      · refine xw_G (pc' := 31) (st' := [.int c3]) rfl rfl trivial ?_
        refine xw_G (pc' := 32) (ls' := [some (.ref 302), some (.int c3), some (.int c2), some (.int c3), some (.int v2)]) (st' := []) rfl rfl (Nat.le_of_ble_eq_true rfl) ?_
        refine xw_G (pc' := 34) (st' := [.int v2]) rfl rfl trivial ?_
        refine xw_G (pc' := 35) (ls' := [some (.ref 302), some (.int c3), some (.int v2), some (.int c3), some (.int v2)]) (st' := []) rfl rfl (Nat.le_of_ble_eq_true rfl) ?_
        refine xw_G (pc' := 38) (ls' := [some (.ref 302), some (.int c3), some (.int v2), some (.int (c3 + (1 : Int32))), some (.int v2)]) (st' := []) rfl rfl (Nat.le_of_ble_eq_true rfl) ?_
        refine xw_G (pc' := 11) (st' := []) rfl rfl trivial ?_
        refine xw_M rfl rfl ?_
        exact ih _ _ _ _ hS hf
      · refine xw_G (pc' := 38) (ls' := [some (.ref 302), some (.int c1), some (.int c2), some (.int (c3 + (1 : Int32))), some (.int v2)]) (st' := []) rfl rfl (Nat.le_of_ble_eq_true rfl) ?_
        refine xw_G (pc' := 11) (st' := []) rfl rfl trivial ?_
        refine xw_M rfl rfl ?_
        exact ih _ _ _ _ hS hf
    · refine xw_G (pc' := 42) (st' := [.int c1]) rfl rfl trivial ?_
      exact xr_i (inj := xji) rfl rfl rfl rfl hf hQ hS
theorem t_X11_topUser {N : Nat} {ρ : Nat} {δ : Nat} {h : xm_H} {w : Int32 × xm_H}  (hS : xS ρ δ h) (hf : f_X11_topUser N h = some w) : xm_Rn xX 3 237 [.ref 302] h (xji w.1) w.2 ∧ xS ρ δ w.2 := by
  refine xt_mk (φ := fun h => xS ρ δ h) (M := xM_X11_topUser) (ls := [some (.ref 302), none, none, none, none]) rfl (Nat.le_of_ble_eq_true rfl) rfl (fun Q hQ => ?_)
  unfold f_X11_topUser at hf
  refine xw_G (pc' := 1) (st' := [.ref 302]) rfl rfl trivial ?_
  refine xw_G (pc' := 2) (st' := [.int (0 : Int32), .ref 302]) rfl rfl trivial ?_
  refine xp_i rfl (xkf (xs_k hS rfl rfl : xm_k h 302 = (11, 0))) (Nat.le_of_ble_eq_true rfl) hf (fun h1 e2 hf => ?_)
  have hS := xS_si hS e2
  refine xw_G (pc' := 6) (st' := [.int (-1 : Int32)]) rfl rfl trivial ?_
  refine xw_G (pc' := 7) (ls' := [some (.ref 302), some (.int (-1 : Int32)), none, none, none]) (st' := []) rfl rfl (Nat.le_of_ble_eq_true rfl) ?_
  refine xw_G (pc' := 8) (st' := [.int (0 : Int32)]) rfl rfl trivial ?_
  refine xw_G (pc' := 9) (ls' := [some (.ref 302), some (.int (-1 : Int32)), some (.int (0 : Int32)), none, none]) (st' := []) rfl rfl (Nat.le_of_ble_eq_true rfl) ?_
  refine xw_G (pc' := 10) (st' := [.int (0 : Int32)]) rfl rfl trivial ?_
  refine xw_G (pc' := 11) (ls' := [some (.ref 302), some (.int (-1 : Int32)), some (.int (0 : Int32)), some (.int (0 : Int32)), none]) (st' := []) rfl rfl (Nat.le_of_ble_eq_true rfl) ?_
  refine xw_M rfl rfl ?_
  refine tl_X11_topUser_11  hQ  _ _ _ _ _ hS hf
def f_X10_meanPrice_21B (N : Nat) (ρ : Nat) (c1 : Int32) (k66 : Int32 → Int32 → xm_H → Option ((UInt64 ⊕ Nat × Nat) × xm_H)) (rec : Int32 → Int32 → Int32 → xm_H → Option ((UInt64 ⊕ Nat × Nat) × xm_H)) (c3 : Int32) (c4 : Int32) (c5 : Int32) (h : xm_H) : Option ((UInt64 ⊕ Nat × Nat) × xm_H) := (if c5 < (xm_i h 201 2) then (if xin c5 400 then (if (xm_i h 213 (Int32.toNatClampNeg c5)) = c1 then (rec (c3 + (xm_i h 214 (Int32.toNatClampNeg c5))) (c4 + (1 : Int32)) (c5 + (1 : Int32)) h) else (rec c3 c4 (c5 + (1 : Int32)) h)) else none) else (k66 c3 c4 h))
def f_X10_meanPrice_21 (N : Nat) (ρ : Nat) (c1 : Int32) (k66 : Int32 → Int32 → xm_H → Option ((UInt64 ⊕ Nat × Nat) × xm_H)) : Nat → Int32 → Int32 → Int32 → xm_H → Option ((UInt64 ⊕ Nat × Nat) × xm_H)
  | 0 => fun _ _ _ _ => none
  | n + 1 => fun c3 c4 c5 h => f_X10_meanPrice_21B N ρ c1 k66 (f_X10_meanPrice_21 N ρ c1 k66 n) c3 c4 c5 h
def f_X10_meanPrice (N : Nat) (ρ : Nat) (x1 : Int32) (h : xm_H) : Option ((UInt64 ⊕ Nat × Nat) × xm_H) := (xe (f_X10_requireSlot ρ x1 h) (fun v1 h2 => (f_X10_meanPrice_21 N ρ x1 (fun (e4 : Int32) (e5 : Int32) (h6 : xm_H) => (xb (f_X10_quotient e4 e5 h6) fun v7 h8 => (some (.inl v7, h8)))) N (0 : Int32) (0 : Int32) (0 : Int32) h2)) (fun q10 h11 => (some (.inr q10, h11))))
theorem tl_X10_meanPrice_21 {δ : Nat} {N : Nat} {ρ : Nat} {c1 : Int32} {k66 : Int32 → Int32 → xm_H → Option ((UInt64 ⊕ Nat × Nat) × xm_H)} {Q : xm_O → xm_H → Prop} {w : (UInt64 ⊕ Nat × Nat) × xm_H}  (hQ : xS ρ δ w.2 → Q (xtd w.1) w.2) (hk66 : ∀ (a0 : Int32) (a1 : Int32) (h : xm_H), xS ρ δ h → k66 a0 a1 h = some w → xm_W (xm_Rn xX 2) xM_X10_meanPrice Q 66 [none, none, none, some (.int a0), some (.int a1), none] [] h) : ∀ (n : Nat) (c3 : Int32) (c4 : Int32) (c5 : Int32) (h : xm_H), xS ρ δ h → f_X10_meanPrice_21 N ρ c1 k66 n c3 c4 c5 h = some w → xm_W (xm_Rn xX 2) xM_X10_meanPrice Q 21 [some (.ref 160), some (.int c1), some (.ref 209), some (.int c3), some (.int c4), some (.int c5)] [] h := by
  intro n
  induction n with
  | zero =>
    intro c3 c4 c5 h hS hf
    exact (xn_e hf).elim
  | succ n ih =>
    intro c3 c4 c5 h hS hf
    replace hf : f_X10_meanPrice_21B N ρ c1 k66 (f_X10_meanPrice_21 N ρ c1 k66 n) c3 c4 c5 h = some w := hf
    unfold f_X10_meanPrice_21B at hf
    refine xw_K (pc' := 23) (ls' := [some (.ref 160), some (.int c1), some (.ref 209), some (.int c3), some (.int c4), some (.int c5)]) (st' := [.int c5]) rfl rfl trivial ?_
    refine xw_G (pc' := 24) (st' := [.ref 160, .int c5]) rfl rfl trivial ?_
    refine xw_gr rfl (xkf (xs_k hS rfl rfl : xm_k h 160 = (0, 0))) (xs_r hS rfl) ?_
    refine xw_gr rfl (xkf (xs_k hS rfl rfl : xm_k h 182 = (3, 0))) (xs_r hS rfl) ?_
    refine xw_G (pc' := 33) (st' := [.int (xm_i h 201 2), .int c5]) rfl rfl (xkf (xs_k hS rfl rfl : xm_k h 201 = (8, 0))) ?_
    refine xj_ic_ge rfl hf (fun hc1 hf => ?_) (fun hc1 hf => ?_)
    · refine xw_G (pc' := 37) (st' := [.ref 209]) rfl rfl trivial ?_
      refine xw_gr rfl (xkf (xs_k hS rfl rfl : xm_k h 209 = (5, 0))) (xs_r hS rfl) ?_
      refine xw_G (pc' := 42) (st' := [.int c5, .ref 213]) rfl rfl trivial ?_
      refine xg_e hf (fun hg2 hf => ?_)
      refine xa_ld (t := 100) (τ := 0) (v := .int (xm_i h 213 (Int32.toNatClampNeg c5))) rfl rfl (xkf (xs_k hS rfl rfl : xm_k h 213 = (100, 400))) (xkn (xs_k hS rfl rfl : xm_k h 213 = (100, 400))) hg2 rfl ?_
      refine xw_G (pc' := 44) (st' := [.int c1, .int (xm_i h 213 (Int32.toNatClampNeg c5))]) rfl rfl trivial ?_
      refine xj_ic_ne rfl hf (fun hc3 hf => ?_) (fun hc3 hf => ?_)
      · refine xw_G (pc' := 48) (st' := [.int c3]) rfl rfl trivial ?_
        refine xw_G (pc' := 49) (st' := [.ref 209, .int c3]) rfl rfl trivial ?_
        refine xw_gr rfl (xkf (xs_k hS rfl rfl : xm_k h 209 = (5, 0))) (xs_r hS rfl) ?_
        refine xw_G (pc' := 54) (st' := [.int c5, .ref 214, .int c3]) rfl rfl trivial ?_
        refine xa_ld (t := 100) (τ := 0) (v := .int (xm_i h 214 (Int32.toNatClampNeg c5))) rfl rfl (xkf (xs_k hS rfl rfl : xm_k h 214 = (100, 400))) (xkn (xs_k hS rfl rfl : xm_k h 214 = (100, 400))) hg2 rfl ?_
        refine xw_G (pc' := 56) (st' := [.int (c3 + (xm_i h 214 (Int32.toNatClampNeg c5)))]) rfl rfl trivial ?_
        refine xw_G (pc' := 57) (ls' := [some (.ref 160), some (.int c1), some (.ref 209), some (.int (c3 + (xm_i h 214 (Int32.toNatClampNeg c5)))), some (.int c4), some (.int c5)]) (st' := []) rfl rfl (Nat.le_of_ble_eq_true rfl) ?_
        refine xw_G (pc' := 60) (ls' := [some (.ref 160), some (.int c1), some (.ref 209), some (.int (c3 + (xm_i h 214 (Int32.toNatClampNeg c5)))), some (.int (c4 + (1 : Int32))), some (.int c5)]) (st' := []) rfl rfl (Nat.le_of_ble_eq_true rfl) ?_
        refine xw_G (pc' := 63) (ls' := [some (.ref 160), some (.int c1), some (.ref 209), some (.int (c3 + (xm_i h 214 (Int32.toNatClampNeg c5)))), some (.int (c4 + (1 : Int32))), some (.int (c5 + (1 : Int32)))]) (st' := []) rfl rfl (Nat.le_of_ble_eq_true rfl) ?_
        refine xw_G (pc' := 21) (st' := []) rfl rfl trivial ?_
        refine xw_M rfl rfl ?_
        exact ih _ _ _ _ hS hf
      · refine xw_G (pc' := 63) (ls' := [some (.ref 160), some (.int c1), some (.ref 209), some (.int c3), some (.int c4), some (.int (c5 + (1 : Int32)))]) (st' := []) rfl rfl (Nat.le_of_ble_eq_true rfl) ?_
        refine xw_G (pc' := 21) (st' := []) rfl rfl trivial ?_
        refine xw_M rfl rfl ?_
        exact ih _ _ _ _ hS hf
    · refine xw_M rfl rfl ?_
      exact hk66 _ _ _ hS hf
theorem t_X10_meanPrice {N : Nat} {ρ : Nat} {δ : Nat} {x1 : Int32} {h : xm_H} {w : (UInt64 ⊕ Nat × Nat) × xm_H}  (hS : xS ρ δ h) (hf : f_X10_meanPrice N ρ x1 h = some w) : xm_Rn xX 3 117 [.ref 160, .int x1] h (xtd w.1) w.2 ∧ xS ρ δ w.2 := by
  refine xt_mk (φ := fun h => xS ρ δ h) (M := xM_X10_meanPrice) (ls := [some (.ref 160), some (.int x1), none, none, none, none]) rfl (Nat.le_of_ble_eq_true rfl) rfl (fun Q hQ => ?_)
  unfold f_X10_meanPrice at hf
  refine xw_G (pc' := 1) (st' := [.ref 160]) rfl rfl trivial ?_
  refine xw_G (pc' := 2) (st' := [.int x1, .ref 160]) rfl rfl trivial ?_
  refine xe_e hf (fun v1 h2 e3 hf => ?_) (fun q10 h11 e3 hf => ?_)
  · refine xw_V (v := none) rfl rfl (xkf (xs_k hS rfl rfl : xm_k h 160 = (0, 0))) (Nat.le_of_ble_eq_true rfl) (Nat.le_of_ble_eq_true rfl) (xm_Rn_le (Nat.le_of_ble_eq_true rfl) (t_X10_requireSlot  hS e3).1) ?_
    have hS := (t_X10_requireSlot  hS e3).2
    show xm_W _ _ _ 5 _ [] _
    refine xw_G (pc' := 6) (st' := [.ref 160]) rfl rfl trivial ?_
    refine xw_gr rfl (xkf (xs_k hS rfl rfl : xm_k h2 160 = (0, 0))) (xs_r hS rfl) ?_
    refine xw_gr rfl (xkf (xs_k hS rfl rfl : xm_k h2 182 = (3, 0))) (xs_r hS rfl) ?_
    refine xw_G (pc' := 13) (ls' := [some (.ref 160), some (.int x1), some (.ref 209), none, none, none]) (st' := []) rfl rfl (Nat.le_of_ble_eq_true rfl) ?_
    refine xw_G (pc' := 14) (st' := [.int (0 : Int32)]) rfl rfl trivial ?_
    refine xw_G (pc' := 15) (ls' := [some (.ref 160), some (.int x1), some (.ref 209), some (.int (0 : Int32)), none, none]) (st' := []) rfl rfl (Nat.le_of_ble_eq_true rfl) ?_
    refine xw_G (pc' := 16) (st' := [.int (0 : Int32)]) rfl rfl trivial ?_
    refine xw_G (pc' := 18) (ls' := [some (.ref 160), some (.int x1), some (.ref 209), some (.int (0 : Int32)), some (.int (0 : Int32)), none]) (st' := []) rfl rfl (Nat.le_of_ble_eq_true rfl) ?_
    refine xw_G (pc' := 19) (st' := [.int (0 : Int32)]) rfl rfl trivial ?_
    refine xw_G (pc' := 21) (ls' := [some (.ref 160), some (.int x1), some (.ref 209), some (.int (0 : Int32)), some (.int (0 : Int32)), some (.int (0 : Int32))]) (st' := []) rfl rfl (Nat.le_of_ble_eq_true rfl) ?_
    refine xw_M rfl rfl ?_
    refine tl_X10_meanPrice_21  hQ (fun e4 e5 h6 hS hf => ?_) _ _ _ _ _ hS hf
    refine xw_K (pc' := 67) (ls' := [none, none, none, some (.int e4), some (.int e5), none]) (st' := [.int e4]) rfl rfl trivial ?_
    refine xw_G (pc' := 69) (st' := [.int e5, .int e4]) rfl rfl trivial ?_
    refine xb_e hf (fun v7 h8 e9 hf => ?_)
    refine xw_S (v := some (.double v7)) rfl (Nat.le_of_ble_eq_true rfl) (Nat.le_of_ble_eq_true rfl) (xm_Rn_le (Nat.le_of_ble_eq_true rfl) (t_X10_quotient  hS e9).1) ?_
    have hS := (t_X10_quotient  hS e9).2
    show xm_W _ _ _ 72 _ [.double v7] _
    exact xr_d (inj := xtd) rfl rfl hf hQ hS
  · refine xw_VX (x := q10) rfl rfl (xkf (xs_k hS rfl rfl : xm_k h 160 = (0, 0))) (Nat.le_of_ble_eq_true rfl) (Nat.le_of_ble_eq_true rfl) (xm_Rn_le (Nat.le_of_ble_eq_true rfl) (t_X10_requireSlot  hS e3).1) rfl ?_
    have hS := (t_X10_requireSlot  hS e3).2
    exact xr_x (inj := xtd) rfl hf hQ hS
def f_L_meanPrice (N : Nat) (ρ : Nat) (x1 : Int32) (h : xm_H) : Option (Int32 × xm_H) := (xe (f_X10_meanPrice N ρ x1 h) (fun v1 h2 => (xl (xm_sd h2 317 0 v1) fun h4 => (some ((0 : Int32), h4)))) (fun q6 h7 => (if (q6).1 = 15 then (some ((1 : Int32), h7)) else none)))
theorem t_L_meanPrice {N : Nat} {ρ : Nat} {δ : Nat} {x1 : Int32} {h : xm_H} {w : Int32 × xm_H}  (hS : xS ρ δ h) (hf : f_L_meanPrice N ρ x1 h = some w) : xm_Rn xX 4 358 [.ref 160, .int x1, .ref 317] h (xji w.1) w.2 ∧ xS ρ δ w.2 := by
  refine xt_mk (φ := fun h => xS ρ δ h) (M := xM_L_meanPrice) (ls := [some (.ref 160), some (.int x1), some (.ref 317), none]) rfl (Nat.le_of_ble_eq_true rfl) rfl (fun Q hQ => ?_)
  unfold f_L_meanPrice at hf
  refine xw_G (pc' := 1) (st' := [.ref 317]) rfl rfl trivial ?_
  refine xw_G (pc' := 2) (st' := [.int (0 : Int32), .ref 317]) rfl rfl trivial ?_
  refine xw_G (pc' := 3) (st' := [.ref 160, .int (0 : Int32), .ref 317]) rfl rfl trivial ?_
  refine xw_G (pc' := 4) (st' := [.int x1, .ref 160, .int (0 : Int32), .ref 317]) rfl rfl trivial ?_
  refine xe_e hf (fun v1 h2 e3 hf => ?_) (fun q6 h7 e3 hf => ?_)
  · refine xw_V (v := some (.double v1)) rfl rfl (xkf (xs_k hS rfl rfl : xm_k h 160 = (0, 0))) (Nat.le_of_ble_eq_true rfl) (Nat.le_of_ble_eq_true rfl) (xm_Rn_le (Nat.le_of_ble_eq_true rfl) (t_X10_meanPrice  hS e3).1) ?_
    have hS := (t_X10_meanPrice  hS e3).2
    show xm_W _ _ _ 7 _ [.double v1, .int (0 : Int32), .ref 317] _
    refine xa_d rfl (xkf (xs_k hS rfl rfl : xm_k h2 317 = (105, 1))) (xkn (xs_k hS rfl rfl : xm_k h2 317 = (105, 1))) (by decide : xin (0 : Int32) 1) (Nat.le_of_ble_eq_true rfl) hf (fun h4 e5 hf => ?_)
    have hS := xS_sd hS e5
    refine xw_G (pc' := 14) (st' := []) rfl rfl trivial ?_
    refine xw_G (pc' := 15) (st' := [.int (0 : Int32)]) rfl rfl trivial ?_
    exact xr_i (inj := xji) rfl rfl rfl rfl hf hQ hS
  · by_cases hc8 : (q6).1 = 15
    · rw [if_pos hc8] at hf
      refine xw_VH (x := q6) (p := 11) rfl rfl (xkf (xs_k hS rfl rfl : xm_k h 160 = (0, 0))) (Nat.le_of_ble_eq_true rfl) (Nat.le_of_ble_eq_true rfl) (xm_Rn_le (Nat.le_of_ble_eq_true rfl) (t_X10_meanPrice  hS e3).1) (by rw [hc8]; rfl) ?_
      have hS := (t_X10_meanPrice  hS e3).2
      refine xw_G (pc' := 12) (ls' := [some (.ref 160), some (.int x1), some (.ref 317), some (.ref ((q6).2))]) (st' := []) rfl rfl (Nat.le_of_ble_eq_true rfl) ?_
      refine xw_G (pc' := 13) (st' := [.int (1 : Int32)]) rfl rfl trivial ?_
      exact xr_i (inj := xji) rfl rfl rfl rfl hf hQ hS
    · rw [if_neg hc8] at hf
      exact (xn_e hf).elim
def f_X11_meanPrice_31B (N : Nat) (c1 : Int32) (k98 : Int32 → Int32 → xm_H → Option (UInt64 × xm_H)) (rec : Int32 → Int32 → Int32 → xm_H → Option (UInt64 × xm_H)) (c2 : Int32) (c3 : Int32) (c4 : Int32) (h : xm_H) : Option (UInt64 × xm_H) := (if c4 < (xm_i h 303 1) then (xb (f_X11_impressionAt c4 (3 : Int32) h) fun v2 h3 => (if v2 = c1 then (xb (f_X11_impressionAt c4 (4 : Int32) h3) fun v6 h7 => (rec (c2 + v6) (c3 + (1 : Int32)) (c4 + (1 : Int32)) h7)) else (rec (c2 + (0 : Int32)) (c3 + (0 : Int32)) (c4 + (1 : Int32)) h3))) else (k98 c2 c3 h))
def f_X11_meanPrice_31 (N : Nat) (c1 : Int32) (k98 : Int32 → Int32 → xm_H → Option (UInt64 × xm_H)) : Nat → Int32 → Int32 → Int32 → xm_H → Option (UInt64 × xm_H)
  | 0 => fun _ _ _ _ => none
  | n + 1 => fun c2 c3 c4 h => f_X11_meanPrice_31B N c1 k98 (f_X11_meanPrice_31 N c1 k98 n) c2 c3 c4 h
def f_X11_meanPrice (N : Nat) (x1 : Int32) (h : xm_H) : Option (UInt64 × xm_H) := (xb (f_X11_between (Int32.toInt64 x1) (0 : Int64) (Int32.toInt64 ((xm_i h 308 2) - (1 : Int32))) h) fun v1 h2 => (xb (f_X11_good v1 h2) fun v4 h5 => (if v4 = 0 then (some (FP.dconst0, h5)) else (f_X11_meanPrice_31 N x1 (fun (e8 : Int32) (e9 : Int32) (h10 : xm_H) => (if e9 = 0 then (some (FP.dconst0, h10)) else (if (FP.ddiv (FP.i2d e8) (FP.i2d e9)) &&& 0x7fffffffffffffff ≤ 0x7ff0000000000000 then (some (FP.ddiv (FP.i2d e8) (FP.i2d e9), h10)) else none))) N (0 : Int32) (0 : Int32) (0 : Int32) h5))))
theorem tl_X11_meanPrice_31 {ρ : Nat} {δ : Nat} {N : Nat} {c1 : Int32} {k98 : Int32 → Int32 → xm_H → Option (UInt64 × xm_H)} {Q : xm_O → xm_H → Prop} {w : UInt64 × xm_H}  (hQ : xS ρ δ w.2 → Q (xjd w.1) w.2) (hk98 : ∀ (a0 : Int32) (a1 : Int32) (h : xm_H), xS ρ δ h → k98 a0 a1 h = some w → xm_W (xm_Rn xX 1) xM_X11_meanPrice Q 98 [none, none, some (.int a0), some (.int a1), none, none] [] h) : ∀ (n : Nat) (c2 : Int32) (c3 : Int32) (c4 : Int32) (h : xm_H), xS ρ δ h → f_X11_meanPrice_31 N c1 k98 n c2 c3 c4 h = some w → xm_W (xm_Rn xX 1) xM_X11_meanPrice Q 31 [some (.ref 302), some (.int c1), some (.int c2), some (.int c3), some (.int c4), none] [] h := by
  intro n
  induction n with
  | zero =>
    intro c2 c3 c4 h hS hf
    exact (xn_e hf).elim
  | succ n ih =>
    intro c2 c3 c4 h hS hf
    replace hf : f_X11_meanPrice_31B N c1 k98 (f_X11_meanPrice_31 N c1 k98 n) c2 c3 c4 h = some w := hf
    unfold f_X11_meanPrice_31B at hf
    refine xw_K (pc' := 33) (ls' := [some (.ref 302), some (.int c1), some (.int c2), some (.int c3), some (.int c4), none]) (st' := [.int c4]) rfl rfl trivial ?_
    refine xw_G (pc' := 34) (st' := [.ref 302, .int c4]) rfl rfl trivial ?_
    refine xw_gr rfl (xkf (xs_k hS rfl rfl : xm_k h 302 = (11, 0))) (xs_r hS rfl) ?_
    refine xw_G (pc' := 38) (st' := [.int (1 : Int32), .ref 303, .int c4]) rfl rfl trivial ?_
    refine xa_ld (t := 100) (τ := 0) (v := .int (xm_i h 303 1)) rfl rfl (xkf (xs_k hS rfl rfl : xm_k h 303 = (100, 2217))) (xkn (xs_k hS rfl rfl : xm_k h 303 = (100, 2217))) (by decide : xin (1 : Int32) 2217) rfl ?_
    refine xj_ic_ge rfl hf (fun hc1 hf => ?_) (fun hc1 hf => ?_)
    · refine xw_G (pc' := 43) (st' := [.ref 302]) rfl rfl trivial ?_
      refine xw_G (pc' := 45) (st' := [.int c4, .ref 302]) rfl rfl trivial ?_
      refine xw_G (pc' := 46) (st' := [.int (3 : Int32), .int c4, .ref 302]) rfl rfl trivial ?_
      refine xb_e hf (fun v2 h3 e4 hf => ?_)
      refine xw_V (v := some (.int v2)) rfl rfl (xkf (xs_k hS rfl rfl : xm_k h 302 = (11, 0))) (Nat.le_of_ble_eq_true rfl) (Nat.le_of_ble_eq_true rfl) (xm_Rn_le (Nat.le_of_ble_eq_true rfl) (t_X11_impressionAt  hS e4).1) ?_
      have hS := (t_X11_impressionAt  hS e4).2
      show xm_W _ _ _ 49 _ [.int v2] _
      refine xw_G (pc' := 50) (st' := [.int c1, .int v2]) rfl rfl trivial ?_
      refine xj_ic_ne rfl hf (fun hc5 hf => ?_) (fun hc5 hf => ?_)
      · refine xw_G (pc' := 54) (st' := [.int (1 : Int32)]) rfl rfl trivial ?_
        refine xw_G (pc' := 58) (st' := [.int (1 : Int32)]) rfl rfl trivial ?_
        refine xw_G (pc' := 60) (ls' := [some (.ref 302), some (.int c1), some (.int c2), some (.int c3), some (.int c4), some (.int (1 : Int32))]) (st' := []) rfl rfl (Nat.le_of_ble_eq_true rfl) ?_
        refine xw_G (pc' := 61) (st' := [.int c2]) rfl rfl trivial ?_
        refine xw_G (pc' := 63) (st' := [.int (1 : Int32), .int c2]) rfl rfl trivial ?_
        refine xw_G (pc' := 66) (st' := [.int c2]) rfl rfl trivial ?_
        refine xw_G (pc' := 67) (st' := [.ref 302, .int c2]) rfl rfl trivial ?_
        refine xw_G (pc' := 69) (st' := [.int c4, .ref 302, .int c2]) rfl rfl trivial ?_
        refine xw_G (pc' := 70) (st' := [.int (4 : Int32), .int c4, .ref 302, .int c2]) rfl rfl trivial ?_
        refine xb_e hf (fun v6 h7 e8 hf => ?_)
        refine xw_V (v := some (.int v6)) rfl rfl (xkf (xs_k hS rfl rfl : xm_k h3 302 = (11, 0))) (Nat.le_of_ble_eq_true rfl) (Nat.le_of_ble_eq_true rfl) (xm_Rn_le (Nat.le_of_ble_eq_true rfl) (t_X11_impressionAt  hS e8).1) ?_
        have hS := (t_X11_impressionAt  hS e8).2
        show xm_W _ _ _ 73 _ [.int v6, .int c2] _
        refine xw_G (pc' := 77) (st' := [.int v6, .int c2]) rfl rfl trivial ?_
        refine xw_G (pc' := 78) (st' := [.int (c2 + v6)]) rfl rfl trivial ?_
        refine xw_G (pc' := 79) (ls' := [some (.ref 302), some (.int c1), some (.int (c2 + v6)), some (.int c3), some (.int c4), some (.int (1 : Int32))]) (st' := []) rfl rfl (Nat.le_of_ble_eq_true rfl) ?_
        refine xw_G (pc' := 80) (st' := [.int c3]) rfl rfl trivial ?_
        refine xw_G (pc' := 82) (st' := [.int (1 : Int32), .int c3]) rfl rfl trivial ?_
        refine xw_G (pc' := 85) (st' := [.int c3]) rfl rfl trivial ?_
        refine xw_G (pc' := 86) (st' := [.int (1 : Int32), .int c3]) rfl rfl trivial ?_
        refine xw_G (pc' := 90) (st' := [.int (1 : Int32), .int c3]) rfl rfl trivial ?_
        refine xw_G (pc' := 91) (st' := [.int (c3 + (1 : Int32))]) rfl rfl trivial ?_
        refine xw_G (pc' := 92) (ls' := [some (.ref 302), some (.int c1), some (.int (c2 + v6)), some (.int (c3 + (1 : Int32))), some (.int c4), some (.int (1 : Int32))]) (st' := []) rfl rfl (Nat.le_of_ble_eq_true rfl) ?_
        refine xw_G (pc' := 95) (ls' := [some (.ref 302), some (.int c1), some (.int (c2 + v6)), some (.int (c3 + (1 : Int32))), some (.int (c4 + (1 : Int32))), some (.int (1 : Int32))]) (st' := []) rfl rfl (Nat.le_of_ble_eq_true rfl) ?_
        refine xw_G (pc' := 31) (st' := []) rfl rfl trivial ?_
        refine xw_M rfl rfl ?_
        exact ih _ _ _ _ hS hf
      · refine xw_G (pc' := 58) (st' := [.int (0 : Int32)]) rfl rfl trivial ?_
        refine xw_G (pc' := 60) (ls' := [some (.ref 302), some (.int c1), some (.int c2), some (.int c3), some (.int c4), some (.int (0 : Int32))]) (st' := []) rfl rfl (Nat.le_of_ble_eq_true rfl) ?_
        refine xw_G (pc' := 61) (st' := [.int c2]) rfl rfl trivial ?_
        refine xw_G (pc' := 63) (st' := [.int (0 : Int32), .int c2]) rfl rfl trivial ?_
        refine xw_G (pc' := 76) (st' := [.int c2]) rfl rfl trivial ?_
        refine xw_G (pc' := 77) (st' := [.int (0 : Int32), .int c2]) rfl rfl trivial ?_
        refine xw_G (pc' := 78) (st' := [.int (c2 + (0 : Int32))]) rfl rfl trivial ?_
        refine xw_G (pc' := 79) (ls' := [some (.ref 302), some (.int c1), some (.int (c2 + (0 : Int32))), some (.int c3), some (.int c4), some (.int (0 : Int32))]) (st' := []) rfl rfl (Nat.le_of_ble_eq_true rfl) ?_
        refine xw_G (pc' := 80) (st' := [.int c3]) rfl rfl trivial ?_
        refine xw_G (pc' := 82) (st' := [.int (0 : Int32), .int c3]) rfl rfl trivial ?_
        refine xw_G (pc' := 89) (st' := [.int c3]) rfl rfl trivial ?_
        refine xw_G (pc' := 90) (st' := [.int (0 : Int32), .int c3]) rfl rfl trivial ?_
        refine xw_G (pc' := 91) (st' := [.int (c3 + (0 : Int32))]) rfl rfl trivial ?_
        refine xw_G (pc' := 92) (ls' := [some (.ref 302), some (.int c1), some (.int (c2 + (0 : Int32))), some (.int (c3 + (0 : Int32))), some (.int c4), some (.int (0 : Int32))]) (st' := []) rfl rfl (Nat.le_of_ble_eq_true rfl) ?_
        refine xw_G (pc' := 95) (ls' := [some (.ref 302), some (.int c1), some (.int (c2 + (0 : Int32))), some (.int (c3 + (0 : Int32))), some (.int (c4 + (1 : Int32))), some (.int (0 : Int32))]) (st' := []) rfl rfl (Nat.le_of_ble_eq_true rfl) ?_
        refine xw_G (pc' := 31) (st' := []) rfl rfl trivial ?_
        refine xw_M rfl rfl ?_
        exact ih _ _ _ _ hS hf
    · refine xw_M rfl rfl ?_
      exact hk98 _ _ _ hS hf
theorem t_X11_meanPrice {N : Nat} {ρ : Nat} {δ : Nat} {x1 : Int32} {h : xm_H} {w : UInt64 × xm_H}  (hS : xS ρ δ h) (hf : f_X11_meanPrice N x1 h = some w) : xm_Rn xX 2 238 [.ref 302, .int x1] h (xjd w.1) w.2 ∧ xS ρ δ w.2 := by
  refine xt_mk (φ := fun h => xS ρ δ h) (M := xM_X11_meanPrice) (ls := [some (.ref 302), some (.int x1), none, none, none, none]) rfl (Nat.le_of_ble_eq_true rfl) rfl (fun Q hQ => ?_)
  unfold f_X11_meanPrice at hf
  refine xw_G (pc' := 1) (st' := [.ref 302]) rfl rfl trivial ?_
  refine xw_G (pc' := 2) (st' := [.int x1, .ref 302]) rfl rfl trivial ?_
  refine xw_G (pc' := 3) (st' := [.long (Int32.toInt64 x1), .ref 302]) rfl rfl trivial ?_
  refine xw_G (pc' := 4) (st' := [.long (0 : Int64), .long (Int32.toInt64 x1), .ref 302]) rfl rfl trivial ?_
  refine xw_G (pc' := 5) (st' := [.ref 302, .long (0 : Int64), .long (Int32.toInt64 x1), .ref 302]) rfl rfl trivial ?_
  refine xw_gr rfl (xkf (xs_k hS rfl rfl : xm_k h 302 = (11, 0))) (xs_r hS rfl) ?_
  refine xw_G (pc' := 9) (st' := [.int (2 : Int32), .ref 308, .long (0 : Int64), .long (Int32.toInt64 x1), .ref 302]) rfl rfl trivial ?_
  refine xa_ld (t := 100) (τ := 0) (v := .int (xm_i h 308 2)) rfl rfl (xkf (xs_k hS rfl rfl : xm_k h 308 = (100, 72))) (xkn (xs_k hS rfl rfl : xm_k h 308 = (100, 72))) (by decide : xin (2 : Int32) 72) rfl ?_
  refine xw_G (pc' := 11) (st' := [.int (1 : Int32), .int (xm_i h 308 2), .long (0 : Int64), .long (Int32.toInt64 x1), .ref 302]) rfl rfl trivial ?_
  refine xw_G (pc' := 12) (st' := [.int ((xm_i h 308 2) - (1 : Int32)), .long (0 : Int64), .long (Int32.toInt64 x1), .ref 302]) rfl rfl trivial ?_
  refine xw_G (pc' := 13) (st' := [.long (Int32.toInt64 ((xm_i h 308 2) - (1 : Int32))), .long (0 : Int64), .long (Int32.toInt64 x1), .ref 302]) rfl rfl trivial ?_
  refine xb_e hf (fun v1 h2 e3 hf => ?_)
  refine xw_S (v := some (.int v1)) rfl (Nat.le_of_ble_eq_true rfl) (Nat.le_of_ble_eq_true rfl) (xm_Rn_le (Nat.le_of_ble_eq_true rfl) (t_X11_between  hS e3).1) ?_
  have hS := (t_X11_between  hS e3).2
  show xm_W _ _ _ 16 _ [.int v1, .ref 302] _
  refine xb_e hf (fun v4 h5 e6 hf => ?_)
  refine xw_V (v := some (.int v4)) rfl rfl (xkf (xs_k hS rfl rfl : xm_k h2 302 = (11, 0))) (Nat.le_of_ble_eq_true rfl) (Nat.le_of_ble_eq_true rfl) (xm_Rn_le (Nat.le_of_ble_eq_true rfl) (t_X11_good  hS e6).1) ?_
  have hS := (t_X11_good  hS e6).2
  show xm_W _ _ _ 19 _ [.int v4] _
  refine xj_if_ne rfl hf (fun hc7 hf => ?_) (fun hc7 hf => ?_)
  · refine xw_G (pc' := 23) (st' := [.double FP.dconst0]) rfl rfl trivial ?_
    exact xr_d (inj := xjd) rfl rfl hf hQ hS
  · refine xw_G (pc' := 25) (st' := [.int (0 : Int32)]) rfl rfl trivial ?_
    refine xw_G (pc' := 26) (ls' := [some (.ref 302), some (.int x1), some (.int (0 : Int32)), none, none, none]) (st' := []) rfl rfl (Nat.le_of_ble_eq_true rfl) ?_
    refine xw_G (pc' := 27) (st' := [.int (0 : Int32)]) rfl rfl trivial ?_
    refine xw_G (pc' := 28) (ls' := [some (.ref 302), some (.int x1), some (.int (0 : Int32)), some (.int (0 : Int32)), none, none]) (st' := []) rfl rfl (Nat.le_of_ble_eq_true rfl) ?_
    refine xw_G (pc' := 29) (st' := [.int (0 : Int32)]) rfl rfl trivial ?_
    refine xw_G (pc' := 31) (ls' := [some (.ref 302), some (.int x1), some (.int (0 : Int32)), some (.int (0 : Int32)), some (.int (0 : Int32)), none]) (st' := []) rfl rfl (Nat.le_of_ble_eq_true rfl) ?_
    refine xw_M rfl rfl ?_
    refine tl_X11_meanPrice_31  hQ (fun e8 e9 h10 hS hf => ?_) _ _ _ _ _ hS hf
    refine xw_K (pc' := 99) (ls' := [none, none, some (.int e8), some (.int e9), none, none]) (st' := [.int e9]) rfl rfl trivial ?_
    refine xj_if_ne rfl hf (fun hc11 hf => ?_) (fun hc11 hf => ?_)
    · refine xw_G (pc' := 103) (st' := [.double FP.dconst0]) rfl rfl trivial ?_
      refine xw_G (pc' := 111) (st' := [.double FP.dconst0]) rfl rfl trivial ?_
      exact xr_d (inj := xjd) rfl rfl hf hQ hS
    · refine xw_G (pc' := 107) (st' := [.int e8]) rfl rfl trivial ?_
      refine xw_G (pc' := 108) (st' := [.double (FP.i2d e8)]) rfl rfl trivial ?_
      refine xw_G (pc' := 109) (st' := [.int e9, .double (FP.i2d e8)]) rfl rfl trivial ?_
      refine xw_G (pc' := 110) (st' := [.double (FP.i2d e9), .double (FP.i2d e8)]) rfl rfl trivial ?_
      refine xg_e hf (fun hg12 hf => ?_)
      refine xw_G (pc' := 111) (st' := [.double (FP.ddiv (FP.i2d e8) (FP.i2d e9))]) rfl rfl hg12 ?_
      exact xr_d (inj := xjd) rfl rfl hf hQ hS
def f_X10_conversions  (h : xm_H) : Option (Int32 × xm_H) := (some (xm_i h 201 3, h))
theorem t_X10_conversions {ρ : Nat} {δ : Nat} {h : xm_H} {w : Int32 × xm_H}  (hS : xS ρ δ h) (hf : f_X10_conversions  h = some w) : xm_Rn xX 1 118 [.ref 160] h (xji w.1) w.2 ∧ xS ρ δ w.2 := by
  refine xt_mk (φ := fun h => xS ρ δ h) (M := xM_X10_conversions) (ls := [some (.ref 160)]) rfl (Nat.le_of_ble_eq_true rfl) rfl (fun Q hQ => ?_)
  unfold f_X10_conversions at hf
  refine xw_G (pc' := 1) (st' := [.ref 160]) rfl rfl trivial ?_
  refine xw_gr rfl (xkf (xs_k hS rfl rfl : xm_k h 160 = (0, 0))) (xs_r hS rfl) ?_
  refine xw_gr rfl (xkf (xs_k hS rfl rfl : xm_k h 182 = (3, 0))) (xs_r hS rfl) ?_
  refine xw_G (pc' := 10) (st' := [.int (xm_i h 201 3)]) rfl rfl (xkf (xs_k hS rfl rfl : xm_k h 201 = (8, 0))) ?_
  exact xr_i (inj := xji) rfl rfl rfl rfl hf hQ hS
def f_X11_conversions  (h : xm_H) : Option (Int32 × xm_H) := (xl (xm_si h 302 4 (0 : Int32)) fun h1 => (some (xm_i h1 303 2, h1)))
theorem t_X11_conversions {ρ : Nat} {δ : Nat} {h : xm_H} {w : Int32 × xm_H}  (hS : xS ρ δ h) (hf : f_X11_conversions  h = some w) : xm_Rn xX 1 239 [.ref 302] h (xji w.1) w.2 ∧ xS ρ δ w.2 := by
  refine xt_mk (φ := fun h => xS ρ δ h) (M := xM_X11_conversions) (ls := [some (.ref 302)]) rfl (Nat.le_of_ble_eq_true rfl) rfl (fun Q hQ => ?_)
  unfold f_X11_conversions at hf
  refine xw_G (pc' := 1) (st' := [.ref 302]) rfl rfl trivial ?_
  refine xw_G (pc' := 2) (st' := [.int (0 : Int32), .ref 302]) rfl rfl trivial ?_
  refine xp_i rfl (xkf (xs_k hS rfl rfl : xm_k h 302 = (11, 0))) (Nat.le_of_ble_eq_true rfl) hf (fun h1 e2 hf => ?_)
  have hS := xS_si hS e2
  refine xw_G (pc' := 6) (st' := [.ref 302]) rfl rfl trivial ?_
  refine xw_gr rfl (xkf (xs_k hS rfl rfl : xm_k h1 302 = (11, 0))) (xs_r hS rfl) ?_
  refine xw_G (pc' := 10) (st' := [.int (2 : Int32), .ref 303]) rfl rfl trivial ?_
  refine xa_ld (t := 100) (τ := 0) (v := .int (xm_i h1 303 2)) rfl rfl (xkf (xs_k hS rfl rfl : xm_k h1 303 = (100, 2217))) (xkn (xs_k hS rfl rfl : xm_k h1 303 = (100, 2217))) (by decide : xin (2 : Int32) 2217) rfl ?_
  exact xr_i (inj := xji) rfl rfl rfl rfl hf hQ hS
def f_X1_creditOf (x1 : Int32) (x2 : Int32) (x3 : Int32) (h : xm_H) : Option (UInt64 × xm_H) := (if x3 = (2 : Int32) then (if xin x1 40 then (if xin ((x1 * (8 : Int32)) + x2) 320 then (xb (f_X10_quotient ((xm_i h 229 (Int32.toNatClampNeg x1)) * (xm_i h 233 (Int32.toNatClampNeg ((x1 * (8 : Int32)) + x2)))) (xm_i h 232 (Int32.toNatClampNeg x1)) h) fun v4 h5 => (some (v4, h5))) else none) else none) else (if x3 = (1 : Int32) then (if xin x1 40 then (if (xm_i h 230 (Int32.toNatClampNeg x1)) = x2 then (some (FP.i2d (xm_i h 229 (Int32.toNatClampNeg x1)), h)) else (some (FP.dconst0, h))) else none) else (if xin x1 40 then (if (xm_i h 231 (Int32.toNatClampNeg x1)) = x2 then (some (FP.i2d (xm_i h 229 (Int32.toNatClampNeg x1)), h)) else (some (FP.dconst0, h))) else none)))
theorem t_X1_creditOf {ρ : Nat} {δ : Nat} {x1 : Int32} {x2 : Int32} {x3 : Int32} {h : xm_H} {w : UInt64 × xm_H}  (hS : xS ρ δ h) (hf : f_X1_creditOf x1 x2 x3 h = some w) : xm_Rn xX 2 4 [.ref 228, .int x1, .int x2, .int x3] h (xjd w.1) w.2 ∧ xS ρ δ w.2 := by
  refine xt_mk (φ := fun h => xS ρ δ h) (M := xM_X1_creditOf) (ls := [some (.ref 228), some (.int x1), some (.int x2), some (.int x3), none]) rfl (Nat.le_of_ble_eq_true rfl) rfl (fun Q hQ => ?_)
  unfold f_X1_creditOf at hf
  refine xw_G (pc' := 1) (st' := [.int x3]) rfl rfl trivial ?_
  refine xw_G (pc' := 2) (st' := [.int (2 : Int32), .int x3]) rfl rfl trivial ?_
  refine xj_ic_ne rfl hf (fun hc1 hf => ?_) (fun hc1 hf => ?_)
  · refine xw_G (pc' := 6) (st' := [.ref 228]) rfl rfl trivial ?_
    refine xw_gr rfl (xkf (xs_k hS rfl rfl : xm_k h 228 = (2, 0))) (xs_r hS rfl) ?_
    refine xw_G (pc' := 10) (st' := [.int x1, .ref 229]) rfl rfl trivial ?_
    refine xg_e hf (fun hg2 hf => ?_)
    refine xa_ld (t := 100) (τ := 0) (v := .int (xm_i h 229 (Int32.toNatClampNeg x1))) rfl rfl (xkf (xs_k hS rfl rfl : xm_k h 229 = (100, 40))) (xkn (xs_k hS rfl rfl : xm_k h 229 = (100, 40))) hg2 rfl ?_
    refine xw_G (pc' := 12) (st' := [.ref 228, .int (xm_i h 229 (Int32.toNatClampNeg x1))]) rfl rfl trivial ?_
    refine xw_gr rfl (xkf (xs_k hS rfl rfl : xm_k h 228 = (2, 0))) (xs_r hS rfl) ?_
    refine xw_G (pc' := 16) (st' := [.int x1, .ref 233, .int (xm_i h 229 (Int32.toNatClampNeg x1))]) rfl rfl trivial ?_
    refine xw_G (pc' := 18) (st' := [.int (8 : Int32), .int x1, .ref 233, .int (xm_i h 229 (Int32.toNatClampNeg x1))]) rfl rfl trivial ?_
    refine xw_G (pc' := 19) (st' := [.int (x1 * (8 : Int32)), .ref 233, .int (xm_i h 229 (Int32.toNatClampNeg x1))]) rfl rfl trivial ?_
    refine xw_G (pc' := 20) (st' := [.int x2, .int (x1 * (8 : Int32)), .ref 233, .int (xm_i h 229 (Int32.toNatClampNeg x1))]) rfl rfl trivial ?_
    refine xw_G (pc' := 21) (st' := [.int ((x1 * (8 : Int32)) + x2), .ref 233, .int (xm_i h 229 (Int32.toNatClampNeg x1))]) rfl rfl trivial ?_
    refine xg_e hf (fun hg3 hf => ?_)
    refine xa_ld (t := 100) (τ := 0) (v := .int (xm_i h 233 (Int32.toNatClampNeg ((x1 * (8 : Int32)) + x2)))) rfl rfl (xkf (xs_k hS rfl rfl : xm_k h 233 = (100, 320))) (xkn (xs_k hS rfl rfl : xm_k h 233 = (100, 320))) hg3 rfl ?_
    refine xw_G (pc' := 23) (st' := [.int ((xm_i h 229 (Int32.toNatClampNeg x1)) * (xm_i h 233 (Int32.toNatClampNeg ((x1 * (8 : Int32)) + x2))))]) rfl rfl trivial ?_
    refine xw_G (pc' := 24) (st' := [.ref 228, .int ((xm_i h 229 (Int32.toNatClampNeg x1)) * (xm_i h 233 (Int32.toNatClampNeg ((x1 * (8 : Int32)) + x2))))]) rfl rfl trivial ?_
    refine xw_gr rfl (xkf (xs_k hS rfl rfl : xm_k h 228 = (2, 0))) (xs_r hS rfl) ?_
    refine xw_G (pc' := 28) (st' := [.int x1, .ref 232, .int ((xm_i h 229 (Int32.toNatClampNeg x1)) * (xm_i h 233 (Int32.toNatClampNeg ((x1 * (8 : Int32)) + x2))))]) rfl rfl trivial ?_
    refine xa_ld (t := 100) (τ := 0) (v := .int (xm_i h 232 (Int32.toNatClampNeg x1))) rfl rfl (xkf (xs_k hS rfl rfl : xm_k h 232 = (100, 40))) (xkn (xs_k hS rfl rfl : xm_k h 232 = (100, 40))) hg2 rfl ?_
    refine xb_e hf (fun v4 h5 e6 hf => ?_)
    refine xw_S3 (v := some (.double v4)) rfl (Nat.le_of_ble_eq_true rfl) (Nat.le_of_ble_eq_true rfl) (xm_Rn_le (Nat.le_of_ble_eq_true rfl) (t_X10_quotient  hS e6).1) ?_
    have hS := (t_X10_quotient  hS e6).2
    show xm_W _ _ _ 32 _ [.double v4] _
    exact xr_d (inj := xjd) rfl rfl hf hQ hS
  · refine xw_G (pc' := 34) (st' := [.int x3]) rfl rfl trivial ?_
    refine xw_G (pc' := 35) (st' := [.int (1 : Int32), .int x3]) rfl rfl trivial ?_
    refine xj_ic_ne rfl hf (fun hc7 hf => ?_) (fun hc7 hf => ?_)
    · refine xw_G (pc' := 39) (st' := [.ref 228]) rfl rfl trivial ?_
      refine xw_gr rfl (xkf (xs_k hS rfl rfl : xm_k h 228 = (2, 0))) (xs_r hS rfl) ?_
      refine xw_G (pc' := 43) (st' := [.int x1, .ref 230]) rfl rfl trivial ?_
      refine xg_e hf (fun hg8 hf => ?_)
      refine xa_ld (t := 100) (τ := 0) (v := .int (xm_i h 230 (Int32.toNatClampNeg x1))) rfl rfl (xkf (xs_k hS rfl rfl : xm_k h 230 = (100, 40))) (xkn (xs_k hS rfl rfl : xm_k h 230 = (100, 40))) hg8 rfl ?_
      refine xw_G (pc' := 53) (st' := [.int (xm_i h 230 (Int32.toNatClampNeg x1))]) rfl rfl trivial ?_
      refine xw_G (pc' := 55) (ls' := [some (.ref 228), some (.int x1), some (.int x2), some (.int x3), some (.int (xm_i h 230 (Int32.toNatClampNeg x1)))]) (st' := []) rfl rfl (Nat.le_of_ble_eq_true rfl) ?_
      refine xw_G (pc' := 57) (st' := [.int (xm_i h 230 (Int32.toNatClampNeg x1))]) rfl rfl trivial ?_
      refine xw_G (pc' := 58) (st' := [.int x2, .int (xm_i h 230 (Int32.toNatClampNeg x1))]) rfl rfl trivial ?_
      refine xj_ic_ne rfl hf (fun hc9 hf => ?_) (fun hc9 hf => ?_)
      · refine xw_G (pc' := 62) (st' := [.ref 228]) rfl rfl trivial ?_
        refine xw_gr rfl (xkf (xs_k hS rfl rfl : xm_k h 228 = (2, 0))) (xs_r hS rfl) ?_
        refine xw_G (pc' := 66) (st' := [.int x1, .ref 229]) rfl rfl trivial ?_
        refine xa_ld (t := 100) (τ := 0) (v := .int (xm_i h 229 (Int32.toNatClampNeg x1))) rfl rfl (xkf (xs_k hS rfl rfl : xm_k h 229 = (100, 40))) (xkn (xs_k hS rfl rfl : xm_k h 229 = (100, 40))) hg8 rfl ?_
        refine xw_G (pc' := 68) (st' := [.double (FP.i2d (xm_i h 229 (Int32.toNatClampNeg x1)))]) rfl rfl trivial ?_
        refine xw_G (pc' := 72) (st' := [.double (FP.i2d (xm_i h 229 (Int32.toNatClampNeg x1)))]) rfl rfl trivial ?_
        exact xr_d (inj := xjd) rfl rfl hf hQ hS
      · refine xw_G (pc' := 72) (st' := [.double FP.dconst0]) rfl rfl trivial ?_
        exact xr_d (inj := xjd) rfl rfl hf hQ hS
    · refine xw_G (pc' := 48) (st' := [.ref 228]) rfl rfl trivial ?_
      refine xw_gr rfl (xkf (xs_k hS rfl rfl : xm_k h 228 = (2, 0))) (xs_r hS rfl) ?_
      refine xw_G (pc' := 52) (st' := [.int x1, .ref 231]) rfl rfl trivial ?_
      refine xg_e hf (fun hg10 hf => ?_)
      refine xa_ld (t := 100) (τ := 0) (v := .int (xm_i h 231 (Int32.toNatClampNeg x1))) rfl rfl (xkf (xs_k hS rfl rfl : xm_k h 231 = (100, 40))) (xkn (xs_k hS rfl rfl : xm_k h 231 = (100, 40))) hg10 rfl ?_
      refine xw_G (pc' := 55) (ls' := [some (.ref 228), some (.int x1), some (.int x2), some (.int x3), some (.int (xm_i h 231 (Int32.toNatClampNeg x1)))]) (st' := []) rfl rfl (Nat.le_of_ble_eq_true rfl) ?_
      refine xw_G (pc' := 57) (st' := [.int (xm_i h 231 (Int32.toNatClampNeg x1))]) rfl rfl trivial ?_
      refine xw_G (pc' := 58) (st' := [.int x2, .int (xm_i h 231 (Int32.toNatClampNeg x1))]) rfl rfl trivial ?_
      refine xj_ic_ne rfl hf (fun hc11 hf => ?_) (fun hc11 hf => ?_)
      · refine xw_G (pc' := 62) (st' := [.ref 228]) rfl rfl trivial ?_
        refine xw_gr rfl (xkf (xs_k hS rfl rfl : xm_k h 228 = (2, 0))) (xs_r hS rfl) ?_
        refine xw_G (pc' := 66) (st' := [.int x1, .ref 229]) rfl rfl trivial ?_
        refine xa_ld (t := 100) (τ := 0) (v := .int (xm_i h 229 (Int32.toNatClampNeg x1))) rfl rfl (xkf (xs_k hS rfl rfl : xm_k h 229 = (100, 40))) (xkn (xs_k hS rfl rfl : xm_k h 229 = (100, 40))) hg10 rfl ?_
        refine xw_G (pc' := 68) (st' := [.double (FP.i2d (xm_i h 229 (Int32.toNatClampNeg x1)))]) rfl rfl trivial ?_
        refine xw_G (pc' := 72) (st' := [.double (FP.i2d (xm_i h 229 (Int32.toNatClampNeg x1)))]) rfl rfl trivial ?_
        exact xr_d (inj := xjd) rfl rfl hf hQ hS
      · refine xw_G (pc' := 72) (st' := [.double FP.dconst0]) rfl rfl trivial ?_
        exact xr_d (inj := xjd) rfl rfl hf hQ hS
def f_X10_credit_16B (N : Nat) (ρ : Nat) (c1 : Int32) (c2 : Int32) (rec : UInt64 → Int32 → xm_H → Option ((UInt64 ⊕ Nat × Nat) × xm_H)) (c3 : UInt64) (c5 : Int32) (h : xm_H) : Option ((UInt64 ⊕ Nat × Nat) × xm_H) := (if c5 < (xm_i h 201 3) then (xb (f_X1_creditOf c5 c1 c2 h) fun v2 h3 => (if (FP.dadd c3 v2) &&& 0x7fffffffffffffff ≤ 0x7ff0000000000000 then (rec (FP.dadd c3 v2) (c5 + (1 : Int32)) h3) else none)) else (some (.inl c3, h)))
def f_X10_credit_16 (N : Nat) (ρ : Nat) (c1 : Int32) (c2 : Int32) : Nat → UInt64 → Int32 → xm_H → Option ((UInt64 ⊕ Nat × Nat) × xm_H)
  | 0 => fun _ _ _ => none
  | n + 1 => fun c3 c5 h => f_X10_credit_16B N ρ c1 c2 (f_X10_credit_16 N ρ c1 c2 n) c3 c5 h
def f_X10_credit (N : Nat) (ρ : Nat) (x1 : Int32) (x2 : Int32) (h : xm_H) : Option ((UInt64 ⊕ Nat × Nat) × xm_H) := (xe (f_X10_requireCampaign ρ x1 h) (fun v1 h2 => (xe (f_X10_requireRange x2 (0 : Int32) (2 : Int32) h2) (fun v4 h5 => (f_X10_credit_16 N ρ x1 x2 N FP.dconst0 (0 : Int32) h5)) (fun q7 h8 => (some (.inr q7, h8))))) (fun q10 h11 => (some (.inr q10, h11))))
theorem tl_X10_credit_16 {δ : Nat} {N : Nat} {ρ : Nat} {c1 : Int32} {c2 : Int32} {Q : xm_O → xm_H → Prop} {w : (UInt64 ⊕ Nat × Nat) × xm_H}  (hQ : xS ρ δ w.2 → Q (xtd w.1) w.2)  : ∀ (n : Nat) (c3 : UInt64) (c5 : Int32) (h : xm_H), xS ρ δ h → f_X10_credit_16 N ρ c1 c2 n c3 c5 h = some w → xm_W (xm_Rn xX 2) xM_X10_credit Q 16 [some (.ref 160), some (.int c1), some (.int c2), some (.double c3), none, some (.int c5)] [] h := by
  intro n
  induction n with
  | zero =>
    intro c3 c5 h hS hf
    exact (xn_e hf).elim
  | succ n ih =>
    intro c3 c5 h hS hf
    replace hf : f_X10_credit_16B N ρ c1 c2 (f_X10_credit_16 N ρ c1 c2 n) c3 c5 h = some w := hf
    unfold f_X10_credit_16B at hf
    refine xw_K (pc' := 18) (ls' := [some (.ref 160), some (.int c1), some (.int c2), some (.double c3), none, some (.int c5)]) (st' := [.int c5]) rfl rfl trivial ?_
    refine xw_G (pc' := 19) (st' := [.ref 160, .int c5]) rfl rfl trivial ?_
    refine xw_gr rfl (xkf (xs_k hS rfl rfl : xm_k h 160 = (0, 0))) (xs_r hS rfl) ?_
    refine xw_gr rfl (xkf (xs_k hS rfl rfl : xm_k h 182 = (3, 0))) (xs_r hS rfl) ?_
    refine xw_G (pc' := 28) (st' := [.int (xm_i h 201 3), .int c5]) rfl rfl (xkf (xs_k hS rfl rfl : xm_k h 201 = (8, 0))) ?_
    refine xj_ic_ge rfl hf (fun hc1 hf => ?_) (fun hc1 hf => ?_)
    · refine xw_G (pc' := 32) (st' := [.double c3]) rfl rfl trivial ?_
      refine xw_G (pc' := 33) (st' := [.ref 160, .double c3]) rfl rfl trivial ?_
      refine xw_gr rfl (xkf (xs_k hS rfl rfl : xm_k h 160 = (0, 0))) (xs_r hS rfl) ?_
      refine xw_G (pc' := 38) (st' := [.int c5, .ref 228, .double c3]) rfl rfl trivial ?_
      refine xw_G (pc' := 39) (st' := [.int c1, .int c5, .ref 228, .double c3]) rfl rfl trivial ?_
      refine xw_G (pc' := 40) (st' := [.int c2, .int c1, .int c5, .ref 228, .double c3]) rfl rfl trivial ?_
      refine xb_e hf (fun v2 h3 e4 hf => ?_)
      refine xw_V (v := some (.double v2)) rfl rfl (xkf (xs_k hS rfl rfl : xm_k h 228 = (2, 0))) (Nat.le_of_ble_eq_true rfl) (Nat.le_of_ble_eq_true rfl) (xm_Rn_le (Nat.le_of_ble_eq_true rfl) (t_X1_creditOf  hS e4).1) ?_
      have hS := (t_X1_creditOf  hS e4).2
      show xm_W _ _ _ 43 _ [.double v2, .double c3] _
      refine xg_e hf (fun hg5 hf => ?_)
      refine xw_G (pc' := 44) (st' := [.double (FP.dadd c3 v2)]) rfl rfl hg5 ?_
      refine xw_G (pc' := 45) (ls' := [some (.ref 160), some (.int c1), some (.int c2), some (.double (FP.dadd c3 v2)), none, some (.int c5)]) (st' := []) rfl rfl (Nat.le_of_ble_eq_true rfl) ?_
      refine xw_G (pc' := 48) (ls' := [some (.ref 160), some (.int c1), some (.int c2), some (.double (FP.dadd c3 v2)), none, some (.int (c5 + (1 : Int32)))]) (st' := []) rfl rfl (Nat.le_of_ble_eq_true rfl) ?_
      refine xw_G (pc' := 16) (st' := []) rfl rfl trivial ?_
      refine xw_M rfl rfl ?_
      exact ih _ _ _ hS hf
    · refine xw_G (pc' := 52) (st' := [.double c3]) rfl rfl trivial ?_
      exact xr_d (inj := xtd) rfl rfl hf hQ hS
theorem t_X10_credit {N : Nat} {ρ : Nat} {δ : Nat} {x1 : Int32} {x2 : Int32} {h : xm_H} {w : (UInt64 ⊕ Nat × Nat) × xm_H}  (hS : xS ρ δ h) (hf : f_X10_credit N ρ x1 x2 h = some w) : xm_Rn xX 3 119 [.ref 160, .int x1, .int x2] h (xtd w.1) w.2 ∧ xS ρ δ w.2 := by
  refine xt_mk (φ := fun h => xS ρ δ h) (M := xM_X10_credit) (ls := [some (.ref 160), some (.int x1), some (.int x2), none, none, none]) rfl (Nat.le_of_ble_eq_true rfl) rfl (fun Q hQ => ?_)
  unfold f_X10_credit at hf
  refine xw_G (pc' := 1) (st' := [.ref 160]) rfl rfl trivial ?_
  refine xw_G (pc' := 2) (st' := [.int x1, .ref 160]) rfl rfl trivial ?_
  refine xe_e hf (fun v1 h2 e3 hf => ?_) (fun q10 h11 e3 hf => ?_)
  · refine xw_V (v := none) rfl rfl (xkf (xs_k hS rfl rfl : xm_k h 160 = (0, 0))) (Nat.le_of_ble_eq_true rfl) (Nat.le_of_ble_eq_true rfl) (xm_Rn_le (Nat.le_of_ble_eq_true rfl) (t_X10_requireCampaign  hS e3).1) ?_
    have hS := (t_X10_requireCampaign  hS e3).2
    show xm_W _ _ _ 5 _ [] _
    refine xw_G (pc' := 6) (st' := [.int x2]) rfl rfl trivial ?_
    refine xw_G (pc' := 7) (st' := [.int (0 : Int32), .int x2]) rfl rfl trivial ?_
    refine xw_G (pc' := 8) (st' := [.int (2 : Int32), .int (0 : Int32), .int x2]) rfl rfl trivial ?_
    refine xe_e hf (fun v4 h5 e6 hf => ?_) (fun q7 h8 e6 hf => ?_)
    · refine xw_S (v := none) rfl (Nat.le_of_ble_eq_true rfl) (Nat.le_of_ble_eq_true rfl) (xm_Rn_le (Nat.le_of_ble_eq_true rfl) (t_X10_requireRange  hS e6).1) ?_
      have hS := (t_X10_requireRange  hS e6).2
      show xm_W _ _ _ 11 _ [] _
      refine xw_G (pc' := 12) (st' := [.double FP.dconst0]) rfl rfl trivial ?_
      refine xw_G (pc' := 13) (ls' := [some (.ref 160), some (.int x1), some (.int x2), some (.double FP.dconst0), none, none]) (st' := []) rfl rfl (Nat.le_of_ble_eq_true rfl) ?_
      refine xw_G (pc' := 14) (st' := [.int (0 : Int32)]) rfl rfl trivial ?_
      refine xw_G (pc' := 16) (ls' := [some (.ref 160), some (.int x1), some (.int x2), some (.double FP.dconst0), none, some (.int (0 : Int32))]) (st' := []) rfl rfl (Nat.le_of_ble_eq_true rfl) ?_
      refine xw_M rfl rfl ?_
      refine tl_X10_credit_16  hQ  _ _ _ _ hS hf
    · refine xw_SX (x := q7) rfl (Nat.le_of_ble_eq_true rfl) (Nat.le_of_ble_eq_true rfl) (xm_Rn_le (Nat.le_of_ble_eq_true rfl) (t_X10_requireRange  hS e6).1) rfl ?_
      have hS := (t_X10_requireRange  hS e6).2
      exact xr_x (inj := xtd) rfl hf hQ hS
  · refine xw_VX (x := q10) rfl rfl (xkf (xs_k hS rfl rfl : xm_k h 160 = (0, 0))) (Nat.le_of_ble_eq_true rfl) (Nat.le_of_ble_eq_true rfl) (xm_Rn_le (Nat.le_of_ble_eq_true rfl) (t_X10_requireCampaign  hS e3).1) rfl ?_
    have hS := (t_X10_requireCampaign  hS e3).2
    exact xr_x (inj := xtd) rfl hf hQ hS
def f_L_credit (N : Nat) (ρ : Nat) (x1 : Int32) (x2 : Int32) (h : xm_H) : Option (Int32 × xm_H) := (xe (f_X10_credit N ρ x1 x2 h) (fun v1 h2 => (xl (xm_sd h2 317 0 v1) fun h4 => (some ((0 : Int32), h4)))) (fun q6 h7 => (if (q6).1 = 14 then (some ((1 : Int32), h7)) else (if (q6).1 = 15 then (some ((2 : Int32), h7)) else none))))
theorem t_L_credit {N : Nat} {ρ : Nat} {δ : Nat} {x1 : Int32} {x2 : Int32} {h : xm_H} {w : Int32 × xm_H}  (hS : xS ρ δ h) (hf : f_L_credit N ρ x1 x2 h = some w) : xm_Rn xX 4 359 [.ref 160, .int x1, .int x2, .ref 317] h (xji w.1) w.2 ∧ xS ρ δ w.2 := by
  refine xt_mk (φ := fun h => xS ρ δ h) (M := xM_L_credit) (ls := [some (.ref 160), some (.int x1), some (.int x2), some (.ref 317), none]) rfl (Nat.le_of_ble_eq_true rfl) rfl (fun Q hQ => ?_)
  unfold f_L_credit at hf
  refine xw_G (pc' := 1) (st' := [.ref 317]) rfl rfl trivial ?_
  refine xw_G (pc' := 2) (st' := [.int (0 : Int32), .ref 317]) rfl rfl trivial ?_
  refine xw_G (pc' := 3) (st' := [.ref 160, .int (0 : Int32), .ref 317]) rfl rfl trivial ?_
  refine xw_G (pc' := 4) (st' := [.int x1, .ref 160, .int (0 : Int32), .ref 317]) rfl rfl trivial ?_
  refine xw_G (pc' := 5) (st' := [.int x2, .int x1, .ref 160, .int (0 : Int32), .ref 317]) rfl rfl trivial ?_
  refine xe_e hf (fun v1 h2 e3 hf => ?_) (fun q6 h7 e3 hf => ?_)
  · refine xw_V (v := some (.double v1)) rfl rfl (xkf (xs_k hS rfl rfl : xm_k h 160 = (0, 0))) (Nat.le_of_ble_eq_true rfl) (Nat.le_of_ble_eq_true rfl) (xm_Rn_le (Nat.le_of_ble_eq_true rfl) (t_X10_credit  hS e3).1) ?_
    have hS := (t_X10_credit  hS e3).2
    show xm_W _ _ _ 8 _ [.double v1, .int (0 : Int32), .ref 317] _
    refine xa_d rfl (xkf (xs_k hS rfl rfl : xm_k h2 317 = (105, 1))) (xkn (xs_k hS rfl rfl : xm_k h2 317 = (105, 1))) (by decide : xin (0 : Int32) 1) (Nat.le_of_ble_eq_true rfl) hf (fun h4 e5 hf => ?_)
    have hS := xS_sd hS e5
    refine xw_G (pc' := 20) (st' := []) rfl rfl trivial ?_
    refine xw_G (pc' := 21) (st' := [.int (0 : Int32)]) rfl rfl trivial ?_
    exact xr_i (inj := xji) rfl rfl rfl rfl hf hQ hS
  · by_cases hc8 : (q6).1 = 14
    · rw [if_pos hc8] at hf
      refine xw_VH (x := q6) (p := 12) rfl rfl (xkf (xs_k hS rfl rfl : xm_k h 160 = (0, 0))) (Nat.le_of_ble_eq_true rfl) (Nat.le_of_ble_eq_true rfl) (xm_Rn_le (Nat.le_of_ble_eq_true rfl) (t_X10_credit  hS e3).1) (by rw [hc8]; rfl) ?_
      have hS := (t_X10_credit  hS e3).2
      refine xw_G (pc' := 14) (ls' := [some (.ref 160), some (.int x1), some (.int x2), some (.ref 317), some (.ref ((q6).2))]) (st' := []) rfl rfl (Nat.le_of_ble_eq_true rfl) ?_
      refine xw_G (pc' := 15) (st' := [.int (1 : Int32)]) rfl rfl trivial ?_
      exact xr_i (inj := xji) rfl rfl rfl rfl hf hQ hS
    · rw [if_neg hc8] at hf
      by_cases hc8 : (q6).1 = 15
      · rw [if_pos hc8] at hf
        refine xw_VH (x := q6) (p := 16) rfl rfl (xkf (xs_k hS rfl rfl : xm_k h 160 = (0, 0))) (Nat.le_of_ble_eq_true rfl) (Nat.le_of_ble_eq_true rfl) (xm_Rn_le (Nat.le_of_ble_eq_true rfl) (t_X10_credit  hS e3).1) (by rw [hc8]; rfl) ?_
        have hS := (t_X10_credit  hS e3).2
        refine xw_G (pc' := 18) (ls' := [some (.ref 160), some (.int x1), some (.int x2), some (.ref 317), some (.ref ((q6).2))]) (st' := []) rfl rfl (Nat.le_of_ble_eq_true rfl) ?_
        refine xw_G (pc' := 19) (st' := [.int (2 : Int32)]) rfl rfl trivial ?_
        exact xr_i (inj := xji) rfl rfl rfl rfl hf hQ hS
      · rw [if_neg hc8] at hf
        exact (xn_e hf).elim
def f_X11_evenShare_8B (N : Nat) (c1 : Int32) (c2 : Int32) (k57 : Int32 → Int32 → xm_H → Option (UInt64 × xm_H)) (rec : Int32 → Int32 → Int32 → xm_H → Option (UInt64 × xm_H)) (c3 : Int32) (c4 : Int32) (c5 : Int32) (h : xm_H) : Option (UInt64 × xm_H) := (if c5 < (xm_i h 303 1) then (xb (f_X11_leads c5 c2 h) fun v2 h3 => (if v2 = 0 then (rec c3 c4 (c5 + (1 : Int32)) h3) else (xb (f_X11_impressionAt c5 (2 : Int32) h3) fun v6 h7 => (if v6 = c1 then (rec (c3 + (1 : Int32)) (c4 + (1 : Int32)) (c5 + (1 : Int32)) h7) else (rec (c3 + (0 : Int32)) (c4 + (1 : Int32)) (c5 + (1 : Int32)) h7))))) else (k57 c3 c4 h))
def f_X11_evenShare_8 (N : Nat) (c1 : Int32) (c2 : Int32) (k57 : Int32 → Int32 → xm_H → Option (UInt64 × xm_H)) : Nat → Int32 → Int32 → Int32 → xm_H → Option (UInt64 × xm_H)
  | 0 => fun _ _ _ _ => none
  | n + 1 => fun c3 c4 c5 h => f_X11_evenShare_8B N c1 c2 k57 (f_X11_evenShare_8 N c1 c2 k57 n) c3 c4 c5 h
def f_X11_evenShare (N : Nat) (x1 : Int32) (x2 : Int32) (h : xm_H) : Option (UInt64 × xm_H) := (f_X11_evenShare_8 N x1 x2 (fun (e1 : Int32) (e2 : Int32) (h3 : xm_H) => (if e2 = 0 then (some (FP.dconst0, h3)) else (xb (f_X11_conversionAt x2 (2 : Int32) h3) fun v5 h6 => (if (FP.ddiv (FP.i2d (v5 * e1)) (FP.i2d e2)) &&& 0x7fffffffffffffff ≤ 0x7ff0000000000000 then (some (FP.ddiv (FP.i2d (v5 * e1)) (FP.i2d e2), h6)) else none)))) N (0 : Int32) (0 : Int32) (0 : Int32) h)
theorem tl_X11_evenShare_8 {ρ : Nat} {δ : Nat} {N : Nat} {c1 : Int32} {c2 : Int32} {k57 : Int32 → Int32 → xm_H → Option (UInt64 × xm_H)} {Q : xm_O → xm_H → Prop} {w : UInt64 × xm_H}  (hQ : xS ρ δ w.2 → Q (xjd w.1) w.2) (hk57 : ∀ (a0 : Int32) (a1 : Int32) (h : xm_H), xS ρ δ h → k57 a0 a1 h = some w → xm_W (xm_Rn xX 2) xM_X11_evenShare Q 57 [some (.ref 302), none, some (.int c2), some (.int a0), some (.int a1), none] [] h) : ∀ (n : Nat) (c3 : Int32) (c4 : Int32) (c5 : Int32) (h : xm_H), xS ρ δ h → f_X11_evenShare_8 N c1 c2 k57 n c3 c4 c5 h = some w → xm_W (xm_Rn xX 2) xM_X11_evenShare Q 8 [some (.ref 302), some (.int c1), some (.int c2), some (.int c3), some (.int c4), some (.int c5)] [] h := by
  intro n
  induction n with
  | zero =>
    intro c3 c4 c5 h hS hf
    exact (xn_e hf).elim
  | succ n ih =>
    intro c3 c4 c5 h hS hf
    replace hf : f_X11_evenShare_8B N c1 c2 k57 (f_X11_evenShare_8 N c1 c2 k57 n) c3 c4 c5 h = some w := hf
    unfold f_X11_evenShare_8B at hf
    refine xw_K (pc' := 10) (ls' := [some (.ref 302), some (.int c1), some (.int c2), some (.int c3), some (.int c4), some (.int c5)]) (st' := [.int c5]) rfl rfl trivial ?_
    refine xw_G (pc' := 11) (st' := [.ref 302, .int c5]) rfl rfl trivial ?_
    refine xw_gr rfl (xkf (xs_k hS rfl rfl : xm_k h 302 = (11, 0))) (xs_r hS rfl) ?_
    refine xw_G (pc' := 15) (st' := [.int (1 : Int32), .ref 303, .int c5]) rfl rfl trivial ?_
    refine xa_ld (t := 100) (τ := 0) (v := .int (xm_i h 303 1)) rfl rfl (xkf (xs_k hS rfl rfl : xm_k h 303 = (100, 2217))) (xkn (xs_k hS rfl rfl : xm_k h 303 = (100, 2217))) (by decide : xin (1 : Int32) 2217) rfl ?_
    refine xj_ic_ge rfl hf (fun hc1 hf => ?_) (fun hc1 hf => ?_)
    · refine xw_G (pc' := 20) (st' := [.ref 302]) rfl rfl trivial ?_
      refine xw_G (pc' := 22) (st' := [.int c5, .ref 302]) rfl rfl trivial ?_
      refine xw_G (pc' := 23) (st' := [.int c2, .int c5, .ref 302]) rfl rfl trivial ?_
      refine xb_e hf (fun v2 h3 e4 hf => ?_)
      refine xw_V (v := some (.int v2)) rfl rfl (xkf (xs_k hS rfl rfl : xm_k h 302 = (11, 0))) (Nat.le_of_ble_eq_true rfl) (Nat.le_of_ble_eq_true rfl) (xm_Rn_le (Nat.le_of_ble_eq_true rfl) (t_X11_leads  hS e4).1) ?_
      have hS := (t_X11_leads  hS e4).2
      show xm_W _ _ _ 26 _ [.int v2] _
      refine xj_if_eq rfl hf (fun hc5 hf => ?_) (fun hc5 hf => ?_)
      · refine xw_G (pc' := 54) (ls' := [some (.ref 302), some (.int c1), some (.int c2), some (.int c3), some (.int c4), some (.int (c5 + (1 : Int32)))]) (st' := []) rfl rfl (Nat.le_of_ble_eq_true rfl) ?_
        refine xw_G (pc' := 8) (st' := []) rfl rfl trivial ?_
        refine xw_M rfl rfl ?_
        exact ih _ _ _ _ hS hf
      · refine xw_G (pc' := 32) (ls' := [some (.ref 302), some (.int c1), some (.int c2), some (.int c3), some (.int (c4 + (1 : Int32))), some (.int c5)]) (st' := []) rfl rfl (Nat.le_of_ble_eq_true rfl) ?_
        refine xw_G (pc' := 33) (st' := [.int c3]) rfl rfl trivial ?_
        refine xw_G (pc' := 34) (st' := [.ref 302, .int c3]) rfl rfl trivial ?_
        refine xw_G (pc' := 36) (st' := [.int c5, .ref 302, .int c3]) rfl rfl trivial ?_
        refine xw_G (pc' := 37) (st' := [.int (2 : Int32), .int c5, .ref 302, .int c3]) rfl rfl trivial ?_
        refine xb_e hf (fun v6 h7 e8 hf => ?_)
        refine xw_V (v := some (.int v6)) rfl rfl (xkf (xs_k hS rfl rfl : xm_k h3 302 = (11, 0))) (Nat.le_of_ble_eq_true rfl) (Nat.le_of_ble_eq_true rfl) (xm_Rn_le (Nat.le_of_ble_eq_true rfl) (t_X11_impressionAt  hS e8).1) ?_
        have hS := (t_X11_impressionAt  hS e8).2
        show xm_W _ _ _ 40 _ [.int v6, .int c3] _
        refine xw_G (pc' := 41) (st' := [.int c1, .int v6, .int c3]) rfl rfl trivial ?_
        refine xj_ic_ne rfl hf (fun hc9 hf => ?_) (fun hc9 hf => ?_)
        · refine xw_G (pc' := 45) (st' := [.int (1 : Int32), .int c3]) rfl rfl trivial ?_
          refine xw_G (pc' := 49) (st' := [.int (1 : Int32), .int c3]) rfl rfl trivial ?_
          refine xw_G (pc' := 50) (st' := [.int (c3 + (1 : Int32))]) rfl rfl trivial ?_
          refine xw_G (pc' := 51) (ls' := [some (.ref 302), some (.int c1), some (.int c2), some (.int (c3 + (1 : Int32))), some (.int (c4 + (1 : Int32))), some (.int c5)]) (st' := []) rfl rfl (Nat.le_of_ble_eq_true rfl) ?_
          refine xw_G (pc' := 54) (ls' := [some (.ref 302), some (.int c1), some (.int c2), some (.int (c3 + (1 : Int32))), some (.int (c4 + (1 : Int32))), some (.int (c5 + (1 : Int32)))]) (st' := []) rfl rfl (Nat.le_of_ble_eq_true rfl) ?_
          refine xw_G (pc' := 8) (st' := []) rfl rfl trivial ?_
          refine xw_M rfl rfl ?_
          exact ih _ _ _ _ hS hf
        · refine xw_G (pc' := 49) (st' := [.int (0 : Int32), .int c3]) rfl rfl trivial ?_
          refine xw_G (pc' := 50) (st' := [.int (c3 + (0 : Int32))]) rfl rfl trivial ?_
          refine xw_G (pc' := 51) (ls' := [some (.ref 302), some (.int c1), some (.int c2), some (.int (c3 + (0 : Int32))), some (.int (c4 + (1 : Int32))), some (.int c5)]) (st' := []) rfl rfl (Nat.le_of_ble_eq_true rfl) ?_
          refine xw_G (pc' := 54) (ls' := [some (.ref 302), some (.int c1), some (.int c2), some (.int (c3 + (0 : Int32))), some (.int (c4 + (1 : Int32))), some (.int (c5 + (1 : Int32)))]) (st' := []) rfl rfl (Nat.le_of_ble_eq_true rfl) ?_
          refine xw_G (pc' := 8) (st' := []) rfl rfl trivial ?_
          refine xw_M rfl rfl ?_
          exact ih _ _ _ _ hS hf
    · refine xw_M rfl rfl ?_
      exact hk57 _ _ _ hS hf
theorem t_X11_evenShare {N : Nat} {ρ : Nat} {δ : Nat} {x1 : Int32} {x2 : Int32} {h : xm_H} {w : UInt64 × xm_H}  (hS : xS ρ δ h) (hf : f_X11_evenShare N x1 x2 h = some w) : xm_Rn xX 3 240 [.ref 302, .int x1, .int x2] h (xjd w.1) w.2 ∧ xS ρ δ w.2 := by
  refine xt_mk (φ := fun h => xS ρ δ h) (M := xM_X11_evenShare) (ls := [some (.ref 302), some (.int x1), some (.int x2), none, none, none]) rfl (Nat.le_of_ble_eq_true rfl) rfl (fun Q hQ => ?_)
  unfold f_X11_evenShare at hf
  refine xw_G (pc' := 1) (st' := [.int (0 : Int32)]) rfl rfl trivial ?_
  refine xw_G (pc' := 2) (ls' := [some (.ref 302), some (.int x1), some (.int x2), some (.int (0 : Int32)), none, none]) (st' := []) rfl rfl (Nat.le_of_ble_eq_true rfl) ?_
  refine xw_G (pc' := 3) (st' := [.int (0 : Int32)]) rfl rfl trivial ?_
  refine xw_G (pc' := 5) (ls' := [some (.ref 302), some (.int x1), some (.int x2), some (.int (0 : Int32)), some (.int (0 : Int32)), none]) (st' := []) rfl rfl (Nat.le_of_ble_eq_true rfl) ?_
  refine xw_G (pc' := 6) (st' := [.int (0 : Int32)]) rfl rfl trivial ?_
  refine xw_G (pc' := 8) (ls' := [some (.ref 302), some (.int x1), some (.int x2), some (.int (0 : Int32)), some (.int (0 : Int32)), some (.int (0 : Int32))]) (st' := []) rfl rfl (Nat.le_of_ble_eq_true rfl) ?_
  refine xw_M rfl rfl ?_
  refine tl_X11_evenShare_8  hQ (fun e1 e2 h3 hS hf => ?_) _ _ _ _ _ hS hf
  refine xw_K (pc' := 59) (ls' := [some (.ref 302), none, some (.int x2), some (.int e1), some (.int e2), none]) (st' := [.int e2]) rfl rfl trivial ?_
  refine xj_if_ne rfl hf (fun hc4 hf => ?_) (fun hc4 hf => ?_)
  · refine xw_G (pc' := 63) (st' := [.double FP.dconst0]) rfl rfl trivial ?_
    refine xw_G (pc' := 79) (st' := [.double FP.dconst0]) rfl rfl trivial ?_
    exact xr_d (inj := xjd) rfl rfl hf hQ hS
  · refine xw_G (pc' := 67) (st' := [.ref 302]) rfl rfl trivial ?_
    refine xw_G (pc' := 68) (st' := [.int x2, .ref 302]) rfl rfl trivial ?_
    refine xw_G (pc' := 69) (st' := [.int (2 : Int32), .int x2, .ref 302]) rfl rfl trivial ?_
    refine xb_e hf (fun v5 h6 e7 hf => ?_)
    refine xw_V (v := some (.int v5)) rfl rfl (xkf (xs_k hS rfl rfl : xm_k h3 302 = (11, 0))) (Nat.le_of_ble_eq_true rfl) (Nat.le_of_ble_eq_true rfl) (xm_Rn_le (Nat.le_of_ble_eq_true rfl) (t_X11_conversionAt  hS e7).1) ?_
    have hS := (t_X11_conversionAt  hS e7).2
    show xm_W _ _ _ 72 _ [.int v5] _
    refine xw_G (pc' := 73) (st' := [.int e1, .int v5]) rfl rfl trivial ?_
    refine xw_G (pc' := 74) (st' := [.int (v5 * e1)]) rfl rfl trivial ?_
    refine xw_G (pc' := 75) (st' := [.double (FP.i2d (v5 * e1))]) rfl rfl trivial ?_
    refine xw_G (pc' := 77) (st' := [.int e2, .double (FP.i2d (v5 * e1))]) rfl rfl trivial ?_
    refine xw_G (pc' := 78) (st' := [.double (FP.i2d e2), .double (FP.i2d (v5 * e1))]) rfl rfl trivial ?_
    refine xg_e hf (fun hg8 hf => ?_)
    refine xw_G (pc' := 79) (st' := [.double (FP.ddiv (FP.i2d (v5 * e1)) (FP.i2d e2))]) rfl rfl hg8 ?_
    exact xr_d (inj := xjd) rfl rfl hf hQ hS
def f_X11_firstOf_2B (N : Nat) (c1 : Int32) (rec : Int32 → xm_H → Option (Int32 × xm_H)) (c2 : Int32) (h : xm_H) : Option (Int32 × xm_H) := (if c2 < (xm_i h 303 1) then (xb (f_X11_leads c2 c1 h) fun v2 h3 => (if v2 = 0 then (rec (c2 + (1 : Int32)) h3) else (some (c2, h3)))) else (some ((-1 : Int32), h)))
def f_X11_firstOf_2 (N : Nat) (c1 : Int32) : Nat → Int32 → xm_H → Option (Int32 × xm_H)
  | 0 => fun _ _ => none
  | n + 1 => fun c2 h => f_X11_firstOf_2B N c1 (f_X11_firstOf_2 N c1 n) c2 h
def f_X11_firstOf (N : Nat) (x1 : Int32) (h : xm_H) : Option (Int32 × xm_H) := (f_X11_firstOf_2 N x1 N (0 : Int32) h)
theorem tl_X11_firstOf_2 {ρ : Nat} {δ : Nat} {N : Nat} {c1 : Int32} {Q : xm_O → xm_H → Prop} {w : Int32 × xm_H}  (hQ : xS ρ δ w.2 → Q (xji w.1) w.2)  : ∀ (n : Nat) (c2 : Int32) (h : xm_H), xS ρ δ h → f_X11_firstOf_2 N c1 n c2 h = some w → xm_W (xm_Rn xX 2) xM_X11_firstOf Q 2 [some (.ref 302), some (.int c1), some (.int c2)] [] h := by
  intro n
  induction n with
  | zero =>
    intro c2 h hS hf
    exact (xn_e hf).elim
  | succ n ih =>
    intro c2 h hS hf
    replace hf : f_X11_firstOf_2B N c1 (f_X11_firstOf_2 N c1 n) c2 h = some w := hf
    unfold f_X11_firstOf_2B at hf
    refine xw_K (pc' := 3) (ls' := [some (.ref 302), some (.int c1), some (.int c2)]) (st' := [.int c2]) rfl rfl trivial ?_
    refine xw_G (pc' := 4) (st' := [.ref 302, .int c2]) rfl rfl trivial ?_
    refine xw_gr rfl (xkf (xs_k hS rfl rfl : xm_k h 302 = (11, 0))) (xs_r hS rfl) ?_
    refine xw_G (pc' := 8) (st' := [.int (1 : Int32), .ref 303, .int c2]) rfl rfl trivial ?_
    refine xa_ld (t := 100) (τ := 0) (v := .int (xm_i h 303 1)) rfl rfl (xkf (xs_k hS rfl rfl : xm_k h 303 = (100, 2217))) (xkn (xs_k hS rfl rfl : xm_k h 303 = (100, 2217))) (by decide : xin (1 : Int32) 2217) rfl ?_
    refine xj_ic_ge rfl hf (fun hc1 hf => ?_) (fun hc1 hf => ?_)
    · refine xw_G (pc' := 13) (st' := [.ref 302]) rfl rfl trivial ?_
      refine xw_G (pc' := 14) (st' := [.int c2, .ref 302]) rfl rfl trivial ?_
      refine xw_G (pc' := 15) (st' := [.int c1, .int c2, .ref 302]) rfl rfl trivial ?_
      refine xb_e hf (fun v2 h3 e4 hf => ?_)
      refine xw_V (v := some (.int v2)) rfl rfl (xkf (xs_k hS rfl rfl : xm_k h 302 = (11, 0))) (Nat.le_of_ble_eq_true rfl) (Nat.le_of_ble_eq_true rfl) (xm_Rn_le (Nat.le_of_ble_eq_true rfl) (t_X11_leads  hS e4).1) ?_
      have hS := (t_X11_leads  hS e4).2
      show xm_W _ _ _ 18 _ [.int v2] _
      refine xj_if_eq rfl hf (fun hc5 hf => ?_) (fun hc5 hf => ?_)
      · refine xw_G (pc' := 26) (ls' := [some (.ref 302), some (.int c1), some (.int (c2 + (1 : Int32)))]) (st' := []) rfl rfl (Nat.le_of_ble_eq_true rfl) ?_
        refine xw_G (pc' := 2) (st' := []) rfl rfl trivial ?_
        refine xw_M rfl rfl ?_
        exact ih _ _ hS hf
      · refine xw_G (pc' := 22) (st' := [.int c2]) rfl rfl trivial ?_
        exact xr_i (inj := xji) rfl rfl rfl rfl hf hQ hS
    · refine xw_G (pc' := 30) (st' := [.int (-1 : Int32)]) rfl rfl trivial ?_
      exact xr_i (inj := xji) rfl rfl rfl rfl hf hQ hS
theorem t_X11_firstOf {N : Nat} {ρ : Nat} {δ : Nat} {x1 : Int32} {h : xm_H} {w : Int32 × xm_H}  (hS : xS ρ δ h) (hf : f_X11_firstOf N x1 h = some w) : xm_Rn xX 3 219 [.ref 302, .int x1] h (xji w.1) w.2 ∧ xS ρ δ w.2 := by
  refine xt_mk (φ := fun h => xS ρ δ h) (M := xM_X11_firstOf) (ls := [some (.ref 302), some (.int x1), none]) rfl (Nat.le_of_ble_eq_true rfl) rfl (fun Q hQ => ?_)
  unfold f_X11_firstOf at hf
  refine xw_G (pc' := 1) (st' := [.int (0 : Int32)]) rfl rfl trivial ?_
  refine xw_G (pc' := 2) (ls' := [some (.ref 302), some (.int x1), some (.int (0 : Int32))]) (st' := []) rfl rfl (Nat.le_of_ble_eq_true rfl) ?_
  refine xw_M rfl rfl ?_
  refine tl_X11_firstOf_2  hQ  _ _ _ hS hf
def f_X11_shareBy (N : Nat) (x1 : Int32) (x2 : Int32) (x3 : Int32) (h : xm_H) : Option (UInt64 × xm_H) := (if x3 = (2 : Int32) then (xb (f_X11_evenShare N x1 x2 h) fun v2 h3 => (some (v2, h3))) else (if x3 = 0 then (xb (f_X11_lastOf N x2 h) fun v6 h7 => (xb (f_X11_campaignAt v6 h7) fun v9 h10 => (if v9 = x1 then (xb (f_X11_conversionAt x2 (2 : Int32) h10) fun v13 h14 => (some (FP.i2d v13, h14))) else (some (FP.dconst0, h10))))) else (xb (f_X11_firstOf N x2 h) fun v16 h17 => (xb (f_X11_campaignAt v16 h17) fun v19 h20 => (if v19 = x1 then (xb (f_X11_conversionAt x2 (2 : Int32) h20) fun v23 h24 => (some (FP.i2d v23, h24))) else (some (FP.dconst0, h20)))))))
theorem t_X11_shareBy {N : Nat} {ρ : Nat} {δ : Nat} {x1 : Int32} {x2 : Int32} {x3 : Int32} {h : xm_H} {w : UInt64 × xm_H}  (hS : xS ρ δ h) (hf : f_X11_shareBy N x1 x2 x3 h = some w) : xm_Rn xX 4 241 [.ref 302, .int x1, .int x2, .int x3] h (xjd w.1) w.2 ∧ xS ρ δ w.2 := by
  refine xt_mk (φ := fun h => xS ρ δ h) (M := xM_X11_shareBy) (ls := [some (.ref 302), some (.int x1), some (.int x2), some (.int x3), none]) rfl (Nat.le_of_ble_eq_true rfl) rfl (fun Q hQ => ?_)
  unfold f_X11_shareBy at hf
  refine xw_G (pc' := 1) (st' := [.int x3]) rfl rfl trivial ?_
  refine xw_G (pc' := 2) (st' := [.int (2 : Int32), .int x3]) rfl rfl trivial ?_
  refine xj_ic_ne rfl hf (fun hc1 hf => ?_) (fun hc1 hf => ?_)
  · refine xw_G (pc' := 6) (st' := [.ref 302]) rfl rfl trivial ?_
    refine xw_G (pc' := 7) (st' := [.int x1, .ref 302]) rfl rfl trivial ?_
    refine xw_G (pc' := 8) (st' := [.int x2, .int x1, .ref 302]) rfl rfl trivial ?_
    refine xb_e hf (fun v2 h3 e4 hf => ?_)
    refine xw_V (v := some (.double v2)) rfl rfl (xkf (xs_k hS rfl rfl : xm_k h 302 = (11, 0))) (Nat.le_of_ble_eq_true rfl) (Nat.le_of_ble_eq_true rfl) (xm_Rn_le (Nat.le_of_ble_eq_true rfl) (t_X11_evenShare  hS e4).1) ?_
    have hS := (t_X11_evenShare  hS e4).2
    show xm_W _ _ _ 11 _ [.double v2] _
    exact xr_d (inj := xjd) rfl rfl hf hQ hS
  · refine xw_G (pc' := 13) (st' := [.ref 302]) rfl rfl trivial ?_
    refine xw_G (pc' := 14) (st' := [.int x3, .ref 302]) rfl rfl trivial ?_
    refine xj_if_ne rfl hf (fun hc5 hf => ?_) (fun hc5 hf => ?_)
    · refine xw_G (pc' := 18) (st' := [.ref 302, .ref 302]) rfl rfl trivial ?_
      refine xw_G (pc' := 19) (st' := [.int x2, .ref 302, .ref 302]) rfl rfl trivial ?_
      refine xb_e hf (fun v6 h7 e8 hf => ?_)
      refine xw_V (v := some (.int v6)) rfl rfl (xkf (xs_k hS rfl rfl : xm_k h 302 = (11, 0))) (Nat.le_of_ble_eq_true rfl) (Nat.le_of_ble_eq_true rfl) (xm_Rn_le (Nat.le_of_ble_eq_true rfl) (t_X11_lastOf  hS e8).1) ?_
      have hS := (t_X11_lastOf  hS e8).2
      show xm_W _ _ _ 22 _ [.int v6, .ref 302] _
      refine xw_G (pc' := 30) (st' := [.int v6, .ref 302]) rfl rfl trivial ?_
      refine xb_e hf (fun v9 h10 e11 hf => ?_)
      refine xw_V (v := some (.int v9)) rfl rfl (xkf (xs_k hS rfl rfl : xm_k h7 302 = (11, 0))) (Nat.le_of_ble_eq_true rfl) (Nat.le_of_ble_eq_true rfl) (xm_Rn_le (Nat.le_of_ble_eq_true rfl) (t_X11_campaignAt  hS e11).1) ?_
      have hS := (t_X11_campaignAt  hS e11).2
      show xm_W _ _ _ 33 _ [.int v9] _
      refine xw_G (pc' := 35) (ls' := [some (.ref 302), some (.int x1), some (.int x2), some (.int x3), some (.int v9)]) (st' := []) rfl rfl (Nat.le_of_ble_eq_true rfl) ?_
      refine xw_G (pc' := 37) (st' := [.int v9]) rfl rfl trivial ?_
      refine xw_G (pc' := 38) (st' := [.int x1, .int v9]) rfl rfl trivial ?_
      refine xj_ic_ne rfl hf (fun hc12 hf => ?_) (fun hc12 hf => ?_)
      · refine xw_G (pc' := 42) (st' := [.ref 302]) rfl rfl trivial ?_
        refine xw_G (pc' := 43) (st' := [.int x2, .ref 302]) rfl rfl trivial ?_
        refine xw_G (pc' := 44) (st' := [.int (2 : Int32), .int x2, .ref 302]) rfl rfl trivial ?_
        refine xb_e hf (fun v13 h14 e15 hf => ?_)
        refine xw_V (v := some (.int v13)) rfl rfl (xkf (xs_k hS rfl rfl : xm_k h10 302 = (11, 0))) (Nat.le_of_ble_eq_true rfl) (Nat.le_of_ble_eq_true rfl) (xm_Rn_le (Nat.le_of_ble_eq_true rfl) (t_X11_conversionAt  hS e15).1) ?_
        have hS := (t_X11_conversionAt  hS e15).2
        show xm_W _ _ _ 47 _ [.int v13] _
        refine xw_G (pc' := 48) (st' := [.double (FP.i2d v13)]) rfl rfl trivial ?_
        refine xw_G (pc' := 52) (st' := [.double (FP.i2d v13)]) rfl rfl trivial ?_
        exact xr_d (inj := xjd) rfl rfl hf hQ hS
      · refine xw_G (pc' := 52) (st' := [.double FP.dconst0]) rfl rfl trivial ?_
        exact xr_d (inj := xjd) rfl rfl hf hQ hS
    · refine xw_G (pc' := 26) (st' := [.ref 302, .ref 302]) rfl rfl trivial ?_
      refine xw_G (pc' := 27) (st' := [.int x2, .ref 302, .ref 302]) rfl rfl trivial ?_
      refine xb_e hf (fun v16 h17 e18 hf => ?_)
      refine xw_V (v := some (.int v16)) rfl rfl (xkf (xs_k hS rfl rfl : xm_k h 302 = (11, 0))) (Nat.le_of_ble_eq_true rfl) (Nat.le_of_ble_eq_true rfl) (xm_Rn_le (Nat.le_of_ble_eq_true rfl) (t_X11_firstOf  hS e18).1) ?_
      have hS := (t_X11_firstOf  hS e18).2
      show xm_W _ _ _ 30 _ [.int v16, .ref 302] _
      refine xb_e hf (fun v19 h20 e21 hf => ?_)
      refine xw_V (v := some (.int v19)) rfl rfl (xkf (xs_k hS rfl rfl : xm_k h17 302 = (11, 0))) (Nat.le_of_ble_eq_true rfl) (Nat.le_of_ble_eq_true rfl) (xm_Rn_le (Nat.le_of_ble_eq_true rfl) (t_X11_campaignAt  hS e21).1) ?_
      have hS := (t_X11_campaignAt  hS e21).2
      show xm_W _ _ _ 33 _ [.int v19] _
      refine xw_G (pc' := 35) (ls' := [some (.ref 302), some (.int x1), some (.int x2), some (.int x3), some (.int v19)]) (st' := []) rfl rfl (Nat.le_of_ble_eq_true rfl) ?_
      refine xw_G (pc' := 37) (st' := [.int v19]) rfl rfl trivial ?_
      refine xw_G (pc' := 38) (st' := [.int x1, .int v19]) rfl rfl trivial ?_
      refine xj_ic_ne rfl hf (fun hc22 hf => ?_) (fun hc22 hf => ?_)
      · refine xw_G (pc' := 42) (st' := [.ref 302]) rfl rfl trivial ?_
        refine xw_G (pc' := 43) (st' := [.int x2, .ref 302]) rfl rfl trivial ?_
        refine xw_G (pc' := 44) (st' := [.int (2 : Int32), .int x2, .ref 302]) rfl rfl trivial ?_
        refine xb_e hf (fun v23 h24 e25 hf => ?_)
        refine xw_V (v := some (.int v23)) rfl rfl (xkf (xs_k hS rfl rfl : xm_k h20 302 = (11, 0))) (Nat.le_of_ble_eq_true rfl) (Nat.le_of_ble_eq_true rfl) (xm_Rn_le (Nat.le_of_ble_eq_true rfl) (t_X11_conversionAt  hS e25).1) ?_
        have hS := (t_X11_conversionAt  hS e25).2
        show xm_W _ _ _ 47 _ [.int v23] _
        refine xw_G (pc' := 48) (st' := [.double (FP.i2d v23)]) rfl rfl trivial ?_
        refine xw_G (pc' := 52) (st' := [.double (FP.i2d v23)]) rfl rfl trivial ?_
        exact xr_d (inj := xjd) rfl rfl hf hQ hS
      · refine xw_G (pc' := 52) (st' := [.double FP.dconst0]) rfl rfl trivial ?_
        exact xr_d (inj := xjd) rfl rfl hf hQ hS
def f_X11_credit_28B (N : Nat) (c1 : Int32) (c2 : Int32) (rec : UInt64 → Int32 → xm_H → Option (UInt64 × xm_H)) (c3 : UInt64) (c5 : Int32) (h : xm_H) : Option (UInt64 × xm_H) := (if c5 < (xm_i h 303 2) then (xb (f_X11_shareBy N c1 c5 c2 h) fun v2 h3 => (if (FP.dadd c3 v2) &&& 0x7fffffffffffffff ≤ 0x7ff0000000000000 then (rec (FP.dadd c3 v2) (c5 + (1 : Int32)) h3) else none)) else (some (c3, h)))
def f_X11_credit_28 (N : Nat) (c1 : Int32) (c2 : Int32) : Nat → UInt64 → Int32 → xm_H → Option (UInt64 × xm_H)
  | 0 => fun _ _ _ => none
  | n + 1 => fun c3 c5 h => f_X11_credit_28B N c1 c2 (f_X11_credit_28 N c1 c2 n) c3 c5 h
def f_X11_credit (N : Nat) (x1 : Int32) (x2 : Int32) (h : xm_H) : Option (UInt64 × xm_H) := (xb (f_X11_isCampaign x1 h) fun v1 h2 => (xb (f_X11_between (Int32.toInt64 x2) (0 : Int64) (2 : Int64) h2) fun v4 h5 => (xb (f_X11_good_ v1 v4 h5) fun v7 h8 => (if v7 = 0 then (some (FP.dconst0, h8)) else (f_X11_credit_28 N x1 x2 N FP.dconst0 (0 : Int32) h8)))))
theorem tl_X11_credit_28 {ρ : Nat} {δ : Nat} {N : Nat} {c1 : Int32} {c2 : Int32} {Q : xm_O → xm_H → Prop} {w : UInt64 × xm_H}  (hQ : xS ρ δ w.2 → Q (xjd w.1) w.2)  : ∀ (n : Nat) (c3 : UInt64) (c5 : Int32) (h : xm_H), xS ρ δ h → f_X11_credit_28 N c1 c2 n c3 c5 h = some w → xm_W (xm_Rn xX 4) xM_X11_credit Q 28 [some (.ref 302), some (.int c1), some (.int c2), some (.double c3), none, some (.int c5)] [] h := by
  intro n
  induction n with
  | zero =>
    intro c3 c5 h hS hf
    exact (xn_e hf).elim
  | succ n ih =>
    intro c3 c5 h hS hf
    replace hf : f_X11_credit_28B N c1 c2 (f_X11_credit_28 N c1 c2 n) c3 c5 h = some w := hf
    unfold f_X11_credit_28B at hf
    refine xw_K (pc' := 30) (ls' := [some (.ref 302), some (.int c1), some (.int c2), some (.double c3), none, some (.int c5)]) (st' := [.int c5]) rfl rfl trivial ?_
    refine xw_G (pc' := 31) (st' := [.ref 302, .int c5]) rfl rfl trivial ?_
    refine xw_gr rfl (xkf (xs_k hS rfl rfl : xm_k h 302 = (11, 0))) (xs_r hS rfl) ?_
    refine xw_G (pc' := 35) (st' := [.int (2 : Int32), .ref 303, .int c5]) rfl rfl trivial ?_
    refine xa_ld (t := 100) (τ := 0) (v := .int (xm_i h 303 2)) rfl rfl (xkf (xs_k hS rfl rfl : xm_k h 303 = (100, 2217))) (xkn (xs_k hS rfl rfl : xm_k h 303 = (100, 2217))) (by decide : xin (2 : Int32) 2217) rfl ?_
    refine xj_ic_ge rfl hf (fun hc1 hf => ?_) (fun hc1 hf => ?_)
    · refine xw_G (pc' := 40) (st' := [.double c3]) rfl rfl trivial ?_
      refine xw_G (pc' := 41) (st' := [.ref 302, .double c3]) rfl rfl trivial ?_
      refine xw_G (pc' := 42) (st' := [.int c1, .ref 302, .double c3]) rfl rfl trivial ?_
      refine xw_G (pc' := 44) (st' := [.int c5, .int c1, .ref 302, .double c3]) rfl rfl trivial ?_
      refine xw_G (pc' := 45) (st' := [.int c2, .int c5, .int c1, .ref 302, .double c3]) rfl rfl trivial ?_
      refine xb_e hf (fun v2 h3 e4 hf => ?_)
      refine xw_V (v := some (.double v2)) rfl rfl (xkf (xs_k hS rfl rfl : xm_k h 302 = (11, 0))) (Nat.le_of_ble_eq_true rfl) (Nat.le_of_ble_eq_true rfl) (xm_Rn_le (Nat.le_of_ble_eq_true rfl) (t_X11_shareBy  hS e4).1) ?_
      have hS := (t_X11_shareBy  hS e4).2
      show xm_W _ _ _ 48 _ [.double v2, .double c3] _
      refine xg_e hf (fun hg5 hf => ?_)
      refine xw_G (pc' := 49) (st' := [.double (FP.dadd c3 v2)]) rfl rfl hg5 ?_
      refine xw_G (pc' := 50) (ls' := [some (.ref 302), some (.int c1), some (.int c2), some (.double (FP.dadd c3 v2)), none, some (.int c5)]) (st' := []) rfl rfl (Nat.le_of_ble_eq_true rfl) ?_
      refine xw_G (pc' := 53) (ls' := [some (.ref 302), some (.int c1), some (.int c2), some (.double (FP.dadd c3 v2)), none, some (.int (c5 + (1 : Int32)))]) (st' := []) rfl rfl (Nat.le_of_ble_eq_true rfl) ?_
      refine xw_G (pc' := 28) (st' := []) rfl rfl trivial ?_
      refine xw_M rfl rfl ?_
      exact ih _ _ _ hS hf
    · refine xw_G (pc' := 57) (st' := [.double c3]) rfl rfl trivial ?_
      exact xr_d (inj := xjd) rfl rfl hf hQ hS
theorem t_X11_credit {N : Nat} {ρ : Nat} {δ : Nat} {x1 : Int32} {x2 : Int32} {h : xm_H} {w : UInt64 × xm_H}  (hS : xS ρ δ h) (hf : f_X11_credit N x1 x2 h = some w) : xm_Rn xX 5 242 [.ref 302, .int x1, .int x2] h (xjd w.1) w.2 ∧ xS ρ δ w.2 := by
  refine xt_mk (φ := fun h => xS ρ δ h) (M := xM_X11_credit) (ls := [some (.ref 302), some (.int x1), some (.int x2), none, none, none]) rfl (Nat.le_of_ble_eq_true rfl) rfl (fun Q hQ => ?_)
  unfold f_X11_credit at hf
  refine xw_G (pc' := 1) (st' := [.ref 302]) rfl rfl trivial ?_
  refine xw_G (pc' := 2) (st' := [.ref 302, .ref 302]) rfl rfl trivial ?_
  refine xw_G (pc' := 3) (st' := [.int x1, .ref 302, .ref 302]) rfl rfl trivial ?_
  refine xb_e hf (fun v1 h2 e3 hf => ?_)
  refine xw_V (v := some (.int v1)) rfl rfl (xkf (xs_k hS rfl rfl : xm_k h 302 = (11, 0))) (Nat.le_of_ble_eq_true rfl) (Nat.le_of_ble_eq_true rfl) (xm_Rn_le (Nat.le_of_ble_eq_true rfl) (t_X11_isCampaign  hS e3).1) ?_
  have hS := (t_X11_isCampaign  hS e3).2
  show xm_W _ _ _ 6 _ [.int v1, .ref 302] _
  refine xw_G (pc' := 7) (st' := [.int x2, .int v1, .ref 302]) rfl rfl trivial ?_
  refine xw_G (pc' := 8) (st' := [.long (Int32.toInt64 x2), .int v1, .ref 302]) rfl rfl trivial ?_
  refine xw_G (pc' := 9) (st' := [.long (0 : Int64), .long (Int32.toInt64 x2), .int v1, .ref 302]) rfl rfl trivial ?_
  refine xw_G (pc' := 12) (st' := [.long (2 : Int64), .long (0 : Int64), .long (Int32.toInt64 x2), .int v1, .ref 302]) rfl rfl trivial ?_
  refine xb_e hf (fun v4 h5 e6 hf => ?_)
  refine xw_S (v := some (.int v4)) rfl (Nat.le_of_ble_eq_true rfl) (Nat.le_of_ble_eq_true rfl) (xm_Rn_le (Nat.le_of_ble_eq_true rfl) (t_X11_between  hS e6).1) ?_
  have hS := (t_X11_between  hS e6).2
  show xm_W _ _ _ 15 _ [.int v4, .int v1, .ref 302] _
  refine xb_e hf (fun v7 h8 e9 hf => ?_)
  refine xw_V (v := some (.int v7)) rfl rfl (xkf (xs_k hS rfl rfl : xm_k h5 302 = (11, 0))) (Nat.le_of_ble_eq_true rfl) (Nat.le_of_ble_eq_true rfl) (xm_Rn_le (Nat.le_of_ble_eq_true rfl) (t_X11_good_  hS e9).1) ?_
  have hS := (t_X11_good_  hS e9).2
  show xm_W _ _ _ 18 _ [.int v7] _
  refine xj_if_ne rfl hf (fun hc10 hf => ?_) (fun hc10 hf => ?_)
  · refine xw_G (pc' := 22) (st' := [.double FP.dconst0]) rfl rfl trivial ?_
    exact xr_d (inj := xjd) rfl rfl hf hQ hS
  · refine xw_G (pc' := 24) (st' := [.double FP.dconst0]) rfl rfl trivial ?_
    refine xw_G (pc' := 25) (ls' := [some (.ref 302), some (.int x1), some (.int x2), some (.double FP.dconst0), none, none]) (st' := []) rfl rfl (Nat.le_of_ble_eq_true rfl) ?_
    refine xw_G (pc' := 26) (st' := [.int (0 : Int32)]) rfl rfl trivial ?_
    refine xw_G (pc' := 28) (ls' := [some (.ref 302), some (.int x1), some (.int x2), some (.double FP.dconst0), none, some (.int (0 : Int32))]) (st' := []) rfl rfl (Nat.le_of_ble_eq_true rfl) ?_
    refine xw_M rfl rfl ?_
    refine tl_X11_credit_28  hQ  _ _ _ _ hS hf
def f_X10_unattributed_4B (N : Nat) (rec : Int32 → Int32 → xm_H → Option (Int32 × xm_H)) (c1 : Int32) (c2 : Int32) (h : xm_H) : Option (Int32 × xm_H) := (if c2 < (xm_i h 201 3) then (if xin c2 40 then (if (xm_i h 232 (Int32.toNatClampNeg c2)) = 0 then (rec (c1 + (xm_i h 229 (Int32.toNatClampNeg c2))) (c2 + (1 : Int32)) h) else (rec c1 (c2 + (1 : Int32)) h)) else none) else (some (c1, h)))
def f_X10_unattributed_4 (N : Nat) : Nat → Int32 → Int32 → xm_H → Option (Int32 × xm_H)
  | 0 => fun _ _ _ => none
  | n + 1 => fun c1 c2 h => f_X10_unattributed_4B N (f_X10_unattributed_4 N n) c1 c2 h
def f_X10_unattributed (N : Nat) (h : xm_H) : Option (Int32 × xm_H) := (f_X10_unattributed_4 N N (0 : Int32) (0 : Int32) h)
theorem tl_X10_unattributed_4 {ρ : Nat} {δ : Nat} {N : Nat} {Q : xm_O → xm_H → Prop} {w : Int32 × xm_H}  (hQ : xS ρ δ w.2 → Q (xji w.1) w.2)  : ∀ (n : Nat) (c1 : Int32) (c2 : Int32) (h : xm_H), xS ρ δ h → f_X10_unattributed_4 N n c1 c2 h = some w → xm_W (xm_Rn xX 0) xM_X10_unattributed Q 4 [some (.ref 160), some (.int c1), some (.int c2)] [] h := by
  intro n
  induction n with
  | zero =>
    intro c1 c2 h hS hf
    exact (xn_e hf).elim
  | succ n ih =>
    intro c1 c2 h hS hf
    replace hf : f_X10_unattributed_4B N (f_X10_unattributed_4 N n) c1 c2 h = some w := hf
    unfold f_X10_unattributed_4B at hf
    refine xw_K (pc' := 5) (ls' := [some (.ref 160), some (.int c1), some (.int c2)]) (st' := [.int c2]) rfl rfl trivial ?_
    refine xw_G (pc' := 6) (st' := [.ref 160, .int c2]) rfl rfl trivial ?_
    refine xw_gr rfl (xkf (xs_k hS rfl rfl : xm_k h 160 = (0, 0))) (xs_r hS rfl) ?_
    refine xw_gr rfl (xkf (xs_k hS rfl rfl : xm_k h 182 = (3, 0))) (xs_r hS rfl) ?_
    refine xw_G (pc' := 15) (st' := [.int (xm_i h 201 3), .int c2]) rfl rfl (xkf (xs_k hS rfl rfl : xm_k h 201 = (8, 0))) ?_
    refine xj_ic_ge rfl hf (fun hc1 hf => ?_) (fun hc1 hf => ?_)
    · refine xw_G (pc' := 19) (st' := [.ref 160]) rfl rfl trivial ?_
      refine xw_gr rfl (xkf (xs_k hS rfl rfl : xm_k h 160 = (0, 0))) (xs_r hS rfl) ?_
      refine xw_gr rfl (xkf (xs_k hS rfl rfl : xm_k h 228 = (2, 0))) (xs_r hS rfl) ?_
      refine xw_G (pc' := 26) (st' := [.int c2, .ref 232]) rfl rfl trivial ?_
      refine xg_e hf (fun hg2 hf => ?_)
      refine xa_ld (t := 100) (τ := 0) (v := .int (xm_i h 232 (Int32.toNatClampNeg c2))) rfl rfl (xkf (xs_k hS rfl rfl : xm_k h 232 = (100, 40))) (xkn (xs_k hS rfl rfl : xm_k h 232 = (100, 40))) hg2 rfl ?_
      refine xj_if_ne rfl hf (fun hc3 hf => ?_) (fun hc3 hf => ?_)
      · refine xw_G (pc' := 31) (st' := [.int c1]) rfl rfl trivial ?_
        refine xw_G (pc' := 32) (st' := [.ref 160, .int c1]) rfl rfl trivial ?_
        refine xw_gr rfl (xkf (xs_k hS rfl rfl : xm_k h 160 = (0, 0))) (xs_r hS rfl) ?_
        refine xw_gr rfl (xkf (xs_k hS rfl rfl : xm_k h 228 = (2, 0))) (xs_r hS rfl) ?_
        refine xw_G (pc' := 39) (st' := [.int c2, .ref 229, .int c1]) rfl rfl trivial ?_
        refine xa_ld (t := 100) (τ := 0) (v := .int (xm_i h 229 (Int32.toNatClampNeg c2))) rfl rfl (xkf (xs_k hS rfl rfl : xm_k h 229 = (100, 40))) (xkn (xs_k hS rfl rfl : xm_k h 229 = (100, 40))) hg2 rfl ?_
        refine xw_G (pc' := 41) (st' := [.int (c1 + (xm_i h 229 (Int32.toNatClampNeg c2)))]) rfl rfl trivial ?_
        refine xw_G (pc' := 42) (ls' := [some (.ref 160), some (.int (c1 + (xm_i h 229 (Int32.toNatClampNeg c2)))), some (.int c2)]) (st' := []) rfl rfl (Nat.le_of_ble_eq_true rfl) ?_
        refine xw_G (pc' := 45) (ls' := [some (.ref 160), some (.int (c1 + (xm_i h 229 (Int32.toNatClampNeg c2)))), some (.int (c2 + (1 : Int32)))]) (st' := []) rfl rfl (Nat.le_of_ble_eq_true rfl) ?_
        refine xw_G (pc' := 4) (st' := []) rfl rfl trivial ?_
        refine xw_M rfl rfl ?_
        exact ih _ _ _ hS hf
      · refine xw_G (pc' := 45) (ls' := [some (.ref 160), some (.int c1), some (.int (c2 + (1 : Int32)))]) (st' := []) rfl rfl (Nat.le_of_ble_eq_true rfl) ?_
        refine xw_G (pc' := 4) (st' := []) rfl rfl trivial ?_
        refine xw_M rfl rfl ?_
        exact ih _ _ _ hS hf
    · refine xw_G (pc' := 49) (st' := [.int c1]) rfl rfl trivial ?_
      exact xr_i (inj := xji) rfl rfl rfl rfl hf hQ hS
theorem t_X10_unattributed {N : Nat} {ρ : Nat} {δ : Nat} {h : xm_H} {w : Int32 × xm_H}  (hS : xS ρ δ h) (hf : f_X10_unattributed N h = some w) : xm_Rn xX 1 120 [.ref 160] h (xji w.1) w.2 ∧ xS ρ δ w.2 := by
  refine xt_mk (φ := fun h => xS ρ δ h) (M := xM_X10_unattributed) (ls := [some (.ref 160), none, none]) rfl (Nat.le_of_ble_eq_true rfl) rfl (fun Q hQ => ?_)
  unfold f_X10_unattributed at hf
  refine xw_G (pc' := 1) (st' := [.int (0 : Int32)]) rfl rfl trivial ?_
  refine xw_G (pc' := 2) (ls' := [some (.ref 160), some (.int (0 : Int32)), none]) (st' := []) rfl rfl (Nat.le_of_ble_eq_true rfl) ?_
  refine xw_G (pc' := 3) (st' := [.int (0 : Int32)]) rfl rfl trivial ?_
  refine xw_G (pc' := 4) (ls' := [some (.ref 160), some (.int (0 : Int32)), some (.int (0 : Int32))]) (st' := []) rfl rfl (Nat.le_of_ble_eq_true rfl) ?_
  refine xw_M rfl rfl ?_
  refine tl_X10_unattributed_4  hQ  _ _ _ _ hS hf
def f_X11_unattributed_9B (N : Nat) (rec : Int32 → Int32 → xm_H → Option (Int32 × xm_H)) (c1 : Int32) (c2 : Int32) (h : xm_H) : Option (Int32 × xm_H) := (if c2 < (xm_i h 303 2) then (xb (f_X11_lastOf N c2 h) fun v2 h3 => (if v2 = (-1 : Int32) then (xb (f_X11_conversionAt c2 (2 : Int32) h3) fun v6 h7 => (rec (c1 + v6) (c2 + (1 : Int32)) h7)) else (rec (c1 + (0 : Int32)) (c2 + (1 : Int32)) h3))) else (some (c1, h)))
def f_X11_unattributed_9 (N : Nat) : Nat → Int32 → Int32 → xm_H → Option (Int32 × xm_H)
  | 0 => fun _ _ _ => none
  | n + 1 => fun c1 c2 h => f_X11_unattributed_9B N (f_X11_unattributed_9 N n) c1 c2 h
def f_X11_unattributed (N : Nat) (h : xm_H) : Option (Int32 × xm_H) := (xl (xm_si h 302 4 (0 : Int32)) fun h1 => (f_X11_unattributed_9 N N (0 : Int32) (0 : Int32) h1))
theorem tl_X11_unattributed_9 {ρ : Nat} {δ : Nat} {N : Nat} {Q : xm_O → xm_H → Prop} {w : Int32 × xm_H}  (hQ : xS ρ δ w.2 → Q (xji w.1) w.2)  : ∀ (n : Nat) (c1 : Int32) (c2 : Int32) (h : xm_H), xS ρ δ h → f_X11_unattributed_9 N n c1 c2 h = some w → xm_W (xm_Rn xX 3) xM_X11_unattributed Q 9 [some (.ref 302), some (.int c1), some (.int c2)] [] h := by
  intro n
  induction n with
  | zero =>
    intro c1 c2 h hS hf
    exact (xn_e hf).elim
  | succ n ih =>
    intro c1 c2 h hS hf
    replace hf : f_X11_unattributed_9B N (f_X11_unattributed_9 N n) c1 c2 h = some w := hf
    unfold f_X11_unattributed_9B at hf
    refine xw_K (pc' := 10) (ls' := [some (.ref 302), some (.int c1), some (.int c2)]) (st' := [.int c2]) rfl rfl trivial ?_
    refine xw_G (pc' := 11) (st' := [.ref 302, .int c2]) rfl rfl trivial ?_
    refine xw_gr rfl (xkf (xs_k hS rfl rfl : xm_k h 302 = (11, 0))) (xs_r hS rfl) ?_
    refine xw_G (pc' := 15) (st' := [.int (2 : Int32), .ref 303, .int c2]) rfl rfl trivial ?_
    refine xa_ld (t := 100) (τ := 0) (v := .int (xm_i h 303 2)) rfl rfl (xkf (xs_k hS rfl rfl : xm_k h 303 = (100, 2217))) (xkn (xs_k hS rfl rfl : xm_k h 303 = (100, 2217))) (by decide : xin (2 : Int32) 2217) rfl ?_
    refine xj_ic_ge rfl hf (fun hc1 hf => ?_) (fun hc1 hf => ?_)
    · refine xw_G (pc' := 20) (st' := [.int c1]) rfl rfl trivial ?_
      refine xw_G (pc' := 21) (st' := [.ref 302, .int c1]) rfl rfl trivial ?_
      refine xw_G (pc' := 22) (st' := [.int c2, .ref 302, .int c1]) rfl rfl trivial ?_
      refine xb_e hf (fun v2 h3 e4 hf => ?_)
      refine xw_V (v := some (.int v2)) rfl rfl (xkf (xs_k hS rfl rfl : xm_k h 302 = (11, 0))) (Nat.le_of_ble_eq_true rfl) (Nat.le_of_ble_eq_true rfl) (xm_Rn_le (Nat.le_of_ble_eq_true rfl) (t_X11_lastOf  hS e4).1) ?_
      have hS := (t_X11_lastOf  hS e4).2
      show xm_W _ _ _ 25 _ [.int v2, .int c1] _
      refine xw_G (pc' := 26) (st' := [.int (-1 : Int32), .int v2, .int c1]) rfl rfl trivial ?_
      refine xj_ic_ne rfl hf (fun hc5 hf => ?_) (fun hc5 hf => ?_)
      · refine xw_G (pc' := 30) (st' := [.ref 302, .int c1]) rfl rfl trivial ?_
        refine xw_G (pc' := 31) (st' := [.int c2, .ref 302, .int c1]) rfl rfl trivial ?_
        refine xw_G (pc' := 32) (st' := [.int (2 : Int32), .int c2, .ref 302, .int c1]) rfl rfl trivial ?_
        refine xb_e hf (fun v6 h7 e8 hf => ?_)
        refine xw_V (v := some (.int v6)) rfl rfl (xkf (xs_k hS rfl rfl : xm_k h3 302 = (11, 0))) (Nat.le_of_ble_eq_true rfl) (Nat.le_of_ble_eq_true rfl) (xm_Rn_le (Nat.le_of_ble_eq_true rfl) (t_X11_conversionAt  hS e8).1) ?_
        have hS := (t_X11_conversionAt  hS e8).2
        show xm_W _ _ _ 35 _ [.int v6, .int c1] _
        refine xw_G (pc' := 39) (st' := [.int v6, .int c1]) rfl rfl trivial ?_
        refine xw_G (pc' := 40) (st' := [.int (c1 + v6)]) rfl rfl trivial ?_
        refine xw_G (pc' := 41) (ls' := [some (.ref 302), some (.int (c1 + v6)), some (.int c2)]) (st' := []) rfl rfl (Nat.le_of_ble_eq_true rfl) ?_
        refine xw_G (pc' := 44) (ls' := [some (.ref 302), some (.int (c1 + v6)), some (.int (c2 + (1 : Int32)))]) (st' := []) rfl rfl (Nat.le_of_ble_eq_true rfl) ?_
        refine xw_G (pc' := 9) (st' := []) rfl rfl trivial ?_
        refine xw_M rfl rfl ?_
        exact ih _ _ _ hS hf
      · refine xw_G (pc' := 39) (st' := [.int (0 : Int32), .int c1]) rfl rfl trivial ?_
        refine xw_G (pc' := 40) (st' := [.int (c1 + (0 : Int32))]) rfl rfl trivial ?_
        refine xw_G (pc' := 41) (ls' := [some (.ref 302), some (.int (c1 + (0 : Int32))), some (.int c2)]) (st' := []) rfl rfl (Nat.le_of_ble_eq_true rfl) ?_
        refine xw_G (pc' := 44) (ls' := [some (.ref 302), some (.int (c1 + (0 : Int32))), some (.int (c2 + (1 : Int32)))]) (st' := []) rfl rfl (Nat.le_of_ble_eq_true rfl) ?_
        refine xw_G (pc' := 9) (st' := []) rfl rfl trivial ?_
        refine xw_M rfl rfl ?_
        exact ih _ _ _ hS hf
    · refine xw_G (pc' := 48) (st' := [.int c1]) rfl rfl trivial ?_
      exact xr_i (inj := xji) rfl rfl rfl rfl hf hQ hS
theorem t_X11_unattributed {N : Nat} {ρ : Nat} {δ : Nat} {h : xm_H} {w : Int32 × xm_H}  (hS : xS ρ δ h) (hf : f_X11_unattributed N h = some w) : xm_Rn xX 4 243 [.ref 302] h (xji w.1) w.2 ∧ xS ρ δ w.2 := by
  refine xt_mk (φ := fun h => xS ρ δ h) (M := xM_X11_unattributed) (ls := [some (.ref 302), none, none]) rfl (Nat.le_of_ble_eq_true rfl) rfl (fun Q hQ => ?_)
  unfold f_X11_unattributed at hf
  refine xw_G (pc' := 1) (st' := [.ref 302]) rfl rfl trivial ?_
  refine xw_G (pc' := 2) (st' := [.int (0 : Int32), .ref 302]) rfl rfl trivial ?_
  refine xp_i rfl (xkf (xs_k hS rfl rfl : xm_k h 302 = (11, 0))) (Nat.le_of_ble_eq_true rfl) hf (fun h1 e2 hf => ?_)
  have hS := xS_si hS e2
  refine xw_G (pc' := 6) (st' := [.int (0 : Int32)]) rfl rfl trivial ?_
  refine xw_G (pc' := 7) (ls' := [some (.ref 302), some (.int (0 : Int32)), none]) (st' := []) rfl rfl (Nat.le_of_ble_eq_true rfl) ?_
  refine xw_G (pc' := 8) (st' := [.int (0 : Int32)]) rfl rfl trivial ?_
  refine xw_G (pc' := 9) (ls' := [some (.ref 302), some (.int (0 : Int32)), some (.int (0 : Int32))]) (st' := []) rfl rfl (Nat.le_of_ble_eq_true rfl) ?_
  refine xw_M rfl rfl ?_
  refine tl_X11_unattributed_9  hQ  _ _ _ _ hS hf
def f_J8_newLength_cabcc (x0 : Int32) (x1 : Int32) (x2 : Int32) (h : xm_H) : Option (Int32 × xm_H) := (if (0 : Int32) < (x0 + (if x1 < x2 then x2 else x1)) then (if (2147483639 : Int32) < (x0 + (if x1 < x2 then x2 else x1)) then none else (some (x0 + (if x1 < x2 then x2 else x1), h))) else none)
theorem t_J8_newLength_cabcc {ρ : Nat} {δ : Nat} {x0 : Int32} {x1 : Int32} {x2 : Int32} {h : xm_H} {w : Int32 × xm_H}  (hS : xS ρ δ h) (hf : f_J8_newLength_cabcc x0 x1 x2 h = some w) : xm_Rn xX 1 322 [.int x0, .int x1, .int x2] h (xji w.1) w.2 ∧ xS ρ δ w.2 := by
  refine xt_mk (φ := fun h => xS ρ δ h) (M := xM_J8_newLength_cabcc) (ls := [some (.int x0), some (.int x1), some (.int x2), none]) rfl (Nat.le_of_ble_eq_true rfl) rfl (fun Q hQ => ?_)
  unfold f_J8_newLength_cabcc at hf
  refine xw_G (pc' := 1) (st' := [.int x0]) rfl rfl trivial ?_
  refine xw_G (pc' := 2) (st' := [.int x1, .int x0]) rfl rfl trivial ?_
  refine xw_G (pc' := 3) (st' := [.int x2, .int x1, .int x0]) rfl rfl trivial ?_
  refine xw_max rfl (Nat.le_of_ble_eq_true rfl) ?_
  refine xw_G (pc' := 7) (st' := [.int (x0 + (if x1 < x2 then x2 else x1))]) rfl rfl trivial ?_
  refine xw_G (pc' := 8) (ls' := [some (.int x0), some (.int x1), some (.int x2), some (.int (x0 + (if x1 < x2 then x2 else x1)))]) (st' := []) rfl rfl (Nat.le_of_ble_eq_true rfl) ?_
  refine xw_G (pc' := 9) (st' := [.int (0 : Int32)]) rfl rfl trivial ?_
  refine xw_G (pc' := 10) (st' := [.int (x0 + (if x1 < x2 then x2 else x1)), .int (0 : Int32)]) rfl rfl trivial ?_
  refine xj_ic_ge rfl hf (fun hc1 hf => ?_) (fun hc1 hf => ?_)
  · refine xw_G (pc' := 14) (st' := [.int (x0 + (if x1 < x2 then x2 else x1))]) rfl rfl trivial ?_
    refine xw_G (pc' := 16) (st' := [.int (2147483639 : Int32), .int (x0 + (if x1 < x2 then x2 else x1))]) rfl rfl trivial ?_
    refine xj_ic_gt rfl hf (fun hc2 hf => ?_) (fun hc2 hf => ?_)
    · refine xw_G (pc' := 22) (st' := [.int x0]) rfl rfl trivial ?_
      refine xw_G (pc' := 23) (st' := [.int x1, .int x0]) rfl rfl trivial ?_
      exact (xn_e hf).elim
    · refine xw_G (pc' := 20) (st' := [.int (x0 + (if x1 < x2 then x2 else x1))]) rfl rfl trivial ?_
      exact xr_i (inj := xji) rfl rfl rfl rfl hf hQ hS
  · refine xw_G (pc' := 22) (st' := [.int x0]) rfl rfl trivial ?_
    refine xw_G (pc' := 23) (st' := [.int x1, .int x0]) rfl rfl trivial ?_
    exact (xn_e hf).elim
def f_J5_newCapacity_0f7a4 (x1 : Int32) (h : xm_H) : Option (Int32 × xm_H) := (xbr (xm_r h 300 0) fun b1 => (if 100 ≤ (xm_k h b1).1 ∧ (xm_k h b1).1 < 109 then (xb (f_J8_newLength_cabcc (Int32.ofNat (xm_k h b1).2) ((x1 <<< ((xm_i h 300 1) &&& 31)) - (Int32.ofNat (xm_k h b1).2)) ((Int32.ofNat (xm_k h b1).2) + ((2 : Int32) <<< ((xm_i h 300 1) &&& 31))) h) fun v4 h5 => (if v4 = (2147483647 : Int32) then none else (some (v4 >>> ((xm_i h5 300 1) &&& 31), h5)))) else none))
theorem t_J5_newCapacity_0f7a4 {ρ : Nat} {δ : Nat} {x1 : Int32} {h : xm_H} {w : Int32 × xm_H}  (hS : xS ρ δ h) (hf : f_J5_newCapacity_0f7a4 x1 h = some w) : xm_Rn xX 2 254 [.ref 300, .int x1] h (xji w.1) w.2 ∧ xS ρ δ w.2 := by
  refine xt_mk (φ := fun h => xS ρ δ h) (M := xM_J5_newCapacity_0f7a4) (ls := [some (.ref 300), some (.int x1), none, none, none, none]) rfl (Nat.le_of_ble_eq_true rfl) rfl (fun Q hQ => ?_)
  unfold f_J5_newCapacity_0f7a4 at hf
  refine xw_G (pc' := 1) (st' := [.ref 300]) rfl rfl trivial ?_
  refine xbr_e hf (fun b1 hr2 hf => ?_)
  refine xw_gr rfl (xkf (xs_k hS rfl rfl : xm_k h 300 = (13, 0))) hr2 ?_
  refine xg_e hf (fun hg3 hf => ?_)
  refine xa_len rfl hg3 rfl ?_
  refine xw_G (pc' := 6) (ls' := [some (.ref 300), some (.int x1), some (.int (Int32.ofNat (xm_k h b1).2)), none, none, none]) (st' := []) rfl rfl (Nat.le_of_ble_eq_true rfl) ?_
  refine xw_G (pc' := 7) (st' := [.int x1]) rfl rfl trivial ?_
  refine xw_G (pc' := 8) (st' := [.ref 300, .int x1]) rfl rfl trivial ?_
  refine xw_G (pc' := 11) (st' := [.int (xm_i h 300 1), .int x1]) rfl rfl (xkf (xs_k hS rfl rfl : xm_k h 300 = (13, 0))) ?_
  refine xw_G (pc' := 12) (st' := [.int (x1 <<< ((xm_i h 300 1) &&& 31))]) rfl rfl trivial ?_
  refine xw_G (pc' := 13) (ls' := [some (.ref 300), some (.int x1), some (.int (Int32.ofNat (xm_k h b1).2)), some (.int (x1 <<< ((xm_i h 300 1) &&& 31))), none, none]) (st' := []) rfl rfl (Nat.le_of_ble_eq_true rfl) ?_
  refine xw_G (pc' := 14) (st' := [.int (x1 <<< ((xm_i h 300 1) &&& 31))]) rfl rfl trivial ?_
  refine xw_G (pc' := 15) (st' := [.int (Int32.ofNat (xm_k h b1).2), .int (x1 <<< ((xm_i h 300 1) &&& 31))]) rfl rfl trivial ?_
  refine xw_G (pc' := 16) (st' := [.int ((x1 <<< ((xm_i h 300 1) &&& 31)) - (Int32.ofNat (xm_k h b1).2))]) rfl rfl trivial ?_
  refine xw_G (pc' := 18) (ls' := [some (.ref 300), some (.int x1), some (.int (Int32.ofNat (xm_k h b1).2)), some (.int (x1 <<< ((xm_i h 300 1) &&& 31))), some (.int ((x1 <<< ((xm_i h 300 1) &&& 31)) - (Int32.ofNat (xm_k h b1).2))), none]) (st' := []) rfl rfl (Nat.le_of_ble_eq_true rfl) ?_
  refine xw_G (pc' := 19) (st' := [.int (Int32.ofNat (xm_k h b1).2)]) rfl rfl trivial ?_
  refine xw_G (pc' := 21) (st' := [.int ((x1 <<< ((xm_i h 300 1) &&& 31)) - (Int32.ofNat (xm_k h b1).2)), .int (Int32.ofNat (xm_k h b1).2)]) rfl rfl trivial ?_
  refine xw_G (pc' := 22) (st' := [.int (Int32.ofNat (xm_k h b1).2), .int ((x1 <<< ((xm_i h 300 1) &&& 31)) - (Int32.ofNat (xm_k h b1).2)), .int (Int32.ofNat (xm_k h b1).2)]) rfl rfl trivial ?_
  refine xw_G (pc' := 23) (st' := [.int (2 : Int32), .int (Int32.ofNat (xm_k h b1).2), .int ((x1 <<< ((xm_i h 300 1) &&& 31)) - (Int32.ofNat (xm_k h b1).2)), .int (Int32.ofNat (xm_k h b1).2)]) rfl rfl trivial ?_
  refine xw_G (pc' := 24) (st' := [.ref 300, .int (2 : Int32), .int (Int32.ofNat (xm_k h b1).2), .int ((x1 <<< ((xm_i h 300 1) &&& 31)) - (Int32.ofNat (xm_k h b1).2)), .int (Int32.ofNat (xm_k h b1).2)]) rfl rfl trivial ?_
  refine xw_G (pc' := 27) (st' := [.int (xm_i h 300 1), .int (2 : Int32), .int (Int32.ofNat (xm_k h b1).2), .int ((x1 <<< ((xm_i h 300 1) &&& 31)) - (Int32.ofNat (xm_k h b1).2)), .int (Int32.ofNat (xm_k h b1).2)]) rfl rfl (xkf (xs_k hS rfl rfl : xm_k h 300 = (13, 0))) ?_
  refine xw_G (pc' := 28) (st' := [.int ((2 : Int32) <<< ((xm_i h 300 1) &&& 31)), .int (Int32.ofNat (xm_k h b1).2), .int ((x1 <<< ((xm_i h 300 1) &&& 31)) - (Int32.ofNat (xm_k h b1).2)), .int (Int32.ofNat (xm_k h b1).2)]) rfl rfl trivial ?_
  refine xw_G (pc' := 29) (st' := [.int ((Int32.ofNat (xm_k h b1).2) + ((2 : Int32) <<< ((xm_i h 300 1) &&& 31))), .int ((x1 <<< ((xm_i h 300 1) &&& 31)) - (Int32.ofNat (xm_k h b1).2)), .int (Int32.ofNat (xm_k h b1).2)]) rfl rfl trivial ?_
  refine xb_e hf (fun v4 h5 e6 hf => ?_)
  refine xw_S (v := some (.int v4)) rfl (Nat.le_of_ble_eq_true rfl) (Nat.le_of_ble_eq_true rfl) (xm_Rn_le (Nat.le_of_ble_eq_true rfl) (t_J8_newLength_cabcc  hS e6).1) ?_
  have hS := (t_J8_newLength_cabcc  hS e6).2
  show xm_W _ _ _ 32 _ [.int v4] _
  refine xw_G (pc' := 34) (ls' := [some (.ref 300), some (.int x1), some (.int (Int32.ofNat (xm_k h b1).2)), some (.int (x1 <<< ((xm_i h 300 1) &&& 31))), some (.int ((x1 <<< ((xm_i h 300 1) &&& 31)) - (Int32.ofNat (xm_k h b1).2))), some (.int v4)]) (st' := []) rfl rfl (Nat.le_of_ble_eq_true rfl) ?_
  refine xw_G (pc' := 36) (st' := [.int v4]) rfl rfl trivial ?_
  refine xw_G (pc' := 38) (st' := [.int (2147483647 : Int32), .int v4]) rfl rfl trivial ?_
  refine xj_ic_ne rfl hf (fun hc7 hf => ?_) (fun hc7 hf => ?_)
  · exact (xn_e hf).elim
  · refine xw_G (pc' := 53) (st' := [.int v4]) rfl rfl trivial ?_
    refine xw_G (pc' := 54) (st' := [.ref 300, .int v4]) rfl rfl trivial ?_
    refine xw_G (pc' := 57) (st' := [.int (xm_i h5 300 1), .int v4]) rfl rfl (xkf (xs_k hS rfl rfl : xm_k h5 300 = (13, 0))) ?_
    refine xw_G (pc' := 58) (st' := [.int (v4 >>> ((xm_i h5 300 1) &&& 31))]) rfl rfl trivial ?_
    exact xr_i (inj := xji) rfl rfl rfl rfl hf hQ hS
def f_J7_copyOf_9075b (x0 : Nat) (x1 : Int32) (h : xm_H) : Option (Nat × xm_H) := (if 100 ≤ (xm_k h x0).1 ∧ (xm_k h x0).1 < 109 then (if x1 = (Int32.ofNat (xm_k h x0).2) then none else (if ¬ x1 < 0 ∧ Int32.toNatClampNeg x1 ≤ 60000000 then (xl (xm_new h (102, Int32.toNatClampNeg x1)) fun h3 => (if 100 ≤ (xm_k h3 x0).1 ∧ (xm_k h3 x0).1 < 109 then (if (xm_k h3 x0).1 = 102 then (if 160 ≤ (xm_n h) then (if ¬ (if x1 < (Int32.ofNat (xm_k h3 x0).2) then x1 else (Int32.ofNat (xm_k h3 x0).2)) < 0 then (if 0 + Int32.toNatClampNeg (if x1 < (Int32.ofNat (xm_k h3 x0).2) then x1 else (Int32.ofNat (xm_k h3 x0).2)) ≤ (xm_k h3 x0).2 then (if 0 + Int32.toNatClampNeg (if x1 < (Int32.ofNat (xm_k h3 x0).2) then x1 else (Int32.ofNat (xm_k h3 x0).2)) ≤ (Int32.toNatClampNeg x1) then (if ∀ i, i < Int32.toNatClampNeg (if x1 < (Int32.ofNat (xm_k h3 x0).2) then x1 else (Int32.ofNat (xm_k h3 x0).2)) → fits (xm_ty 2) (.int (xm_i h3 x0 (0 + i))) = true then (xl (xm_cp h3 x0 0 (xm_n h) 0 (Int32.toNatClampNeg (if x1 < (Int32.ofNat (xm_k h3 x0).2) then x1 else (Int32.ofNat (xm_k h3 x0).2)))) fun h12 => (some ((xm_n h), h12))) else none) else none) else none) else none) else none) else none) else none)) else none)) else none)
theorem t_J7_copyOf_9075b {ρ : Nat} {δ : Nat} {x0 : Nat} {x1 : Int32} {h : xm_H} {w : Nat × xm_H}  (hS : xS ρ δ h) (hf : f_J7_copyOf_9075b x0 x1 h = some w) : xm_Rn xX 1 318 [.ref x0, .int x1] h (xjr w.1) w.2 ∧ xS ρ δ w.2 := by
  refine xt_mk (φ := fun h => xS ρ δ h) (M := xM_J7_copyOf_9075b) (ls := [some (.ref x0), some (.int x1), none]) rfl (Nat.le_of_ble_eq_true rfl) rfl (fun Q hQ => ?_)
  unfold f_J7_copyOf_9075b at hf
  refine xw_G (pc' := 1) (st' := [.int x1]) rfl rfl trivial ?_
  refine xw_G (pc' := 2) (st' := [.ref x0, .int x1]) rfl rfl trivial ?_
  refine xg_e hf (fun hg1 hf => ?_)
  refine xa_len rfl hg1 rfl ?_
  refine xj_ic_ne rfl hf (fun hc2 hf => ?_) (fun hc2 hf => ?_)
  · refine xw_G (pc' := 7) (st' := [.ref x0]) rfl rfl trivial ?_
    exact (xn_e hf).elim
  · refine xw_G (pc' := 15) (st' := [.int x1]) rfl rfl trivial ?_
    refine xg_e hf (fun hg14 hf => ?_)
    refine xa_na rfl hg14 hf (fun h3 e4 hf => ?_)
    have hS := xS_new hS e4
    refine xw_G (pc' := 18) (ls' := [some (.ref x0), some (.int x1), some (.ref (xm_n h))]) (st' := []) rfl rfl (Nat.le_of_ble_eq_true rfl) ?_
    refine xw_G (pc' := 19) (st' := [.ref x0]) rfl rfl trivial ?_
    refine xw_G (pc' := 20) (st' := [.int (0 : Int32), .ref x0]) rfl rfl trivial ?_
    refine xw_G (pc' := 21) (st' := [.ref (xm_n h), .int (0 : Int32), .ref x0]) rfl rfl trivial ?_
    refine xw_G (pc' := 22) (st' := [.int (0 : Int32), .ref (xm_n h), .int (0 : Int32), .ref x0]) rfl rfl trivial ?_
    refine xw_G (pc' := 23) (st' := [.ref x0, .int (0 : Int32), .ref (xm_n h), .int (0 : Int32), .ref x0]) rfl rfl trivial ?_
    refine xg_e hf (fun hg5 hf => ?_)
    refine xa_len rfl hg5 rfl ?_
    refine xw_G (pc' := 25) (st' := [.int x1, .int (Int32.ofNat (xm_k h3 x0).2), .int (0 : Int32), .ref (xm_n h), .int (0 : Int32), .ref x0]) rfl rfl trivial ?_
    refine xw_min rfl (Nat.le_of_ble_eq_true rfl) ?_
    refine xg_e hf (fun hg6 hf => ?_)
    refine xg_e hf (fun hg7 hf => ?_)
    refine xg_e hf (fun hg8 hf => ?_)
    refine xg_e hf (fun hg9 hf => ?_)
    refine xg_e hf (fun hg10 hf => ?_)
    refine xg_e hf (fun hg11 hf => ?_)
    refine xa_cp rfl hg11 hg6 (xkf (xk_new e4)) hg7 hg8 (by decide) (by decide) hg9 (by rw [(xkn (xk_new e4))]; exact hg10) (Nat.le_of_ble_eq_true rfl) hf (fun h12 e13 hf => ?_)
    have hS := xS_cp hS e13
    refine xw_G (pc' := 32) (st' := [.ref (xm_n h)]) rfl rfl trivial ?_
    exact xr_r (inj := xjr) rfl rfl hf hQ hS
def f_J5_ensureCapacityInternal_d00df (x1 : Int32) (h : xm_H) : Option (Unit × xm_H) := (xbr (xm_r h 300 0) fun b1 => (if 100 ≤ (xm_k h b1).1 ∧ (xm_k h b1).1 < 109 then (if 0 < (x1 - ((Int32.ofNat (xm_k h b1).2) >>> ((xm_i h 300 1) &&& 31))) then (xbr (xm_r h 300 0) fun b5 => (xb (f_J5_newCapacity_0f7a4 x1 h) fun v7 h8 => (xb (f_J7_copyOf_9075b b5 (v7 <<< ((xm_i h8 300 1) &&& 31)) h8) fun v10 h11 => (xl (xm_sr h11 300 0 (some v10)) fun h13 => (some ((), h13)))))) else (some ((), h))) else none))
theorem t_J5_ensureCapacityInternal_d00df {ρ : Nat} {δ : Nat} {x1 : Int32} {h : xm_H} {w : Unit × xm_H}  (hS : xS ρ δ h) (hf : f_J5_ensureCapacityInternal_d00df x1 h = some w) : xm_Rn xX 3 253 [.ref 300, .int x1] h (xjv w.1) w.2 ∧ xS ρ δ w.2 := by
  refine xt_mk (φ := fun h => xS ρ δ h) (M := xM_J5_ensureCapacityInternal_d00df) (ls := [some (.ref 300), some (.int x1), none]) rfl (Nat.le_of_ble_eq_true rfl) rfl (fun Q hQ => ?_)
  unfold f_J5_ensureCapacityInternal_d00df at hf
  refine xw_G (pc' := 1) (st' := [.ref 300]) rfl rfl trivial ?_
  refine xbr_e hf (fun b1 hr2 hf => ?_)
  refine xw_gr rfl (xkf (xs_k hS rfl rfl : xm_k h 300 = (13, 0))) hr2 ?_
  refine xg_e hf (fun hg3 hf => ?_)
  refine xa_len rfl hg3 rfl ?_
  refine xw_G (pc' := 6) (st' := [.ref 300, .int (Int32.ofNat (xm_k h b1).2)]) rfl rfl trivial ?_
  refine xw_G (pc' := 9) (st' := [.int (xm_i h 300 1), .int (Int32.ofNat (xm_k h b1).2)]) rfl rfl (xkf (xs_k hS rfl rfl : xm_k h 300 = (13, 0))) ?_
  refine xw_G (pc' := 10) (st' := [.int ((Int32.ofNat (xm_k h b1).2) >>> ((xm_i h 300 1) &&& 31))]) rfl rfl trivial ?_
  refine xw_G (pc' := 11) (ls' := [some (.ref 300), some (.int x1), some (.int ((Int32.ofNat (xm_k h b1).2) >>> ((xm_i h 300 1) &&& 31)))]) (st' := []) rfl rfl (Nat.le_of_ble_eq_true rfl) ?_
  refine xw_G (pc' := 12) (st' := [.int x1]) rfl rfl trivial ?_
  refine xw_G (pc' := 13) (st' := [.int ((Int32.ofNat (xm_k h b1).2) >>> ((xm_i h 300 1) &&& 31)), .int x1]) rfl rfl trivial ?_
  refine xw_G (pc' := 14) (st' := [.int (x1 - ((Int32.ofNat (xm_k h b1).2) >>> ((xm_i h 300 1) &&& 31)))]) rfl rfl trivial ?_
  refine xj_if_le rfl hf (fun hc4 hf => ?_) (fun hc4 hf => ?_)
  · refine xw_G (pc' := 18) (st' := [.ref 300]) rfl rfl trivial ?_
    refine xw_G (pc' := 19) (st' := [.ref 300, .ref 300]) rfl rfl trivial ?_
    refine xbr_e hf (fun b5 hr6 hf => ?_)
    refine xw_gr rfl (xkf (xs_k hS rfl rfl : xm_k h 300 = (13, 0))) hr6 ?_
    refine xw_G (pc' := 23) (st' := [.ref 300, .ref b5, .ref 300]) rfl rfl trivial ?_
    refine xw_G (pc' := 24) (st' := [.int x1, .ref 300, .ref b5, .ref 300]) rfl rfl trivial ?_
    refine xb_e hf (fun v7 h8 e9 hf => ?_)
    refine xw_V6 (v := some (.int v7)) rfl rfl (xkf (xs_k hS rfl rfl : xm_k h 300 = (13, 0))) (Nat.le_of_ble_eq_true rfl) (Nat.le_of_ble_eq_true rfl) (xm_Rn_le (Nat.le_of_ble_eq_true rfl) (t_J5_newCapacity_0f7a4  hS e9).1) ?_
    have hS := (t_J5_newCapacity_0f7a4  hS e9).2
    show xm_W _ _ _ 27 _ [.int v7, .ref b5, .ref 300] _
    refine xw_G (pc' := 28) (st' := [.ref 300, .int v7, .ref b5, .ref 300]) rfl rfl trivial ?_
    refine xw_G (pc' := 31) (st' := [.int (xm_i h8 300 1), .int v7, .ref b5, .ref 300]) rfl rfl (xkf (xs_k hS rfl rfl : xm_k h8 300 = (13, 0))) ?_
    refine xw_G (pc' := 32) (st' := [.int (v7 <<< ((xm_i h8 300 1) &&& 31)), .ref b5, .ref 300]) rfl rfl trivial ?_
    refine xb_e hf (fun v10 h11 e12 hf => ?_)
    refine xw_S (v := some (.ref v10)) rfl (Nat.le_of_ble_eq_true rfl) (Nat.le_of_ble_eq_true rfl) (xm_Rn_le (Nat.le_of_ble_eq_true rfl) (t_J7_copyOf_9075b  hS e12).1) ?_
    have hS := (t_J7_copyOf_9075b  hS e12).2
    show xm_W _ _ _ 35 _ [.ref v10, .ref 300] _
    refine xp_r rfl (xkf (xs_k hS rfl rfl : xm_k h11 300 = (13, 0))) (Nat.le_of_ble_eq_true rfl) hf (fun h13 e14 hf => ?_)
    have hS := xS_dyn hS e14 (Or.inl rfl)
    exact xr_v (inj := xjv) rfl rfl hf hQ hS
  · exact xr_v (inj := xjv) rfl rfl hf hQ hS
def f_J5_isLatin1_aae02  (h : xm_H) : Option (Int32 × xm_H) := (if (xm_i h 300 1) = 0 then (some ((1 : Int32), h)) else (some ((0 : Int32), h)))
theorem t_J5_isLatin1_aae02 {ρ : Nat} {δ : Nat} {h : xm_H} {w : Int32 × xm_H}  (hS : xS ρ δ h) (hf : f_J5_isLatin1_aae02  h = some w) : xm_Rn xX 1 263 [.ref 300] h (xji w.1) w.2 ∧ xS ρ δ w.2 := by
  refine xt_mk (φ := fun h => xS ρ δ h) (M := xM_J5_isLatin1_aae02) (ls := [some (.ref 300)]) rfl (Nat.le_of_ble_eq_true rfl) rfl (fun Q hQ => ?_)
  unfold f_J5_isLatin1_aae02 at hf
  refine xw_G (pc' := 3) (st' := [.int (1 : Int32)]) rfl rfl trivial ?_
  refine xw_G (pc' := 6) (st' := []) rfl rfl trivial ?_
  refine xw_G (pc' := 7) (st' := [.ref 300]) rfl rfl trivial ?_
  refine xw_G (pc' := 10) (st' := [.int (xm_i h 300 1)]) rfl rfl (xkf (xs_k hS rfl rfl : xm_k h 300 = (13, 0))) ?_
  refine xj_if_ne rfl hf (fun hc1 hf => ?_) (fun hc1 hf => ?_)
  · refine xw_G (pc' := 14) (st' := [.int (1 : Int32)]) rfl rfl trivial ?_
    refine xw_G (pc' := 18) (st' := [.int (1 : Int32)]) rfl rfl trivial ?_
    exact xr_i (inj := xji) rfl rfl rfl rfl hf hQ hS
  · refine xw_G (pc' := 18) (st' := [.int (0 : Int32)]) rfl rfl trivial ?_
    exact xr_i (inj := xji) rfl rfl rfl rfl hf hQ hS
def f_J7_rangeCheck_23922 (x0 : Int32) (x1 : Int32) (x2 : Int32) (h : xm_H) : Option (Unit × xm_H) := (if x2 < x1 then none else (if x1 < 0 then none else (if x0 < x2 then none else (some ((), h)))))
theorem t_J7_rangeCheck_23922 {ρ : Nat} {δ : Nat} {x0 : Int32} {x1 : Int32} {x2 : Int32} {h : xm_H} {w : Unit × xm_H}  (hS : xS ρ δ h) (hf : f_J7_rangeCheck_23922 x0 x1 x2 h = some w) : xm_Rn xX 1 316 [.int x0, .int x1, .int x2] h (xjv w.1) w.2 ∧ xS ρ δ w.2 := by
  refine xt_mk (φ := fun h => xS ρ δ h) (M := xM_J7_rangeCheck_23922) (ls := [some (.int x0), some (.int x1), some (.int x2)]) rfl (Nat.le_of_ble_eq_true rfl) rfl (fun Q hQ => ?_)
  unfold f_J7_rangeCheck_23922 at hf
  refine xw_G (pc' := 1) (st' := [.int x1]) rfl rfl trivial ?_
  refine xw_G (pc' := 2) (st' := [.int x2, .int x1]) rfl rfl trivial ?_
  refine xj_ic_le rfl hf (fun hc1 hf => ?_) (fun hc1 hf => ?_)
  · exact (xn_e hf).elim
  · refine xw_G (pc' := 47) (st' := [.int x1]) rfl rfl trivial ?_
    refine xj_if_ge rfl hf (fun hc2 hf => ?_) (fun hc2 hf => ?_)
    · exact (xn_e hf).elim
    · refine xw_G (pc' := 60) (st' := [.int x2]) rfl rfl trivial ?_
      refine xw_G (pc' := 61) (st' := [.int x0, .int x2]) rfl rfl trivial ?_
      refine xj_ic_le rfl hf (fun hc3 hf => ?_) (fun hc3 hf => ?_)
      · exact (xn_e hf).elim
      · exact xr_v (inj := xjv) rfl rfl hf hQ hS
def f_J7_fill_eb02e_10B (N : Nat) (c0 : Nat) (c2 : Int32) (c3 : Int32) (rec : Int32 → xm_H → Option (Unit × xm_H)) (c4 : Int32) (h : xm_H) : Option (Unit × xm_H) := (if c4 < c2 then (if (xm_k h c0).1 = 102 then (if xin c4 (xm_k h c0).2 then (if 160 ≤ c0 then (xl (xm_si h c0 (Int32.toNatClampNeg c4) (vp_nar .byte c3)) fun h5 => (rec (c4 + (1 : Int32)) h5)) else none) else none) else none) else (some ((), h)))
def f_J7_fill_eb02e_10 (N : Nat) (c0 : Nat) (c2 : Int32) (c3 : Int32) : Nat → Int32 → xm_H → Option (Unit × xm_H)
  | 0 => fun _ _ => none
  | n + 1 => fun c4 h => f_J7_fill_eb02e_10B N c0 c2 c3 (f_J7_fill_eb02e_10 N c0 c2 c3 n) c4 h
def f_J7_fill_eb02e (N : Nat) (x0 : Nat) (x1 : Int32) (x2 : Int32) (x3 : Int32) (h : xm_H) : Option (Unit × xm_H) := (if 100 ≤ (xm_k h x0).1 ∧ (xm_k h x0).1 < 109 then (xb (f_J7_rangeCheck_23922 (Int32.ofNat (xm_k h x0).2) x1 x2 h) fun v2 h3 => (f_J7_fill_eb02e_10 N x0 x2 x3 N x1 h3)) else none)
theorem tl_J7_fill_eb02e_10 {ρ : Nat} {δ : Nat} {N : Nat} {c0 : Nat} {c2 : Int32} {c3 : Int32} {Q : xm_O → xm_H → Prop} {w : Unit × xm_H}  (hQ : xS ρ δ w.2 → Q (xjv w.1) w.2)  : ∀ (n : Nat) (c4 : Int32) (h : xm_H), xS ρ δ h → f_J7_fill_eb02e_10 N c0 c2 c3 n c4 h = some w → xm_W (xm_Rn xX 1) xM_J7_fill_eb02e Q 10 [some (.ref c0), none, some (.int c2), some (.int c3), some (.int c4)] [] h := by
  intro n
  induction n with
  | zero =>
    intro c4 h hS hf
    exact (xn_e hf).elim
  | succ n ih =>
    intro c4 h hS hf
    replace hf : f_J7_fill_eb02e_10B N c0 c2 c3 (f_J7_fill_eb02e_10 N c0 c2 c3 n) c4 h = some w := hf
    unfold f_J7_fill_eb02e_10B at hf
    refine xw_K (pc' := 12) (ls' := [some (.ref c0), none, some (.int c2), some (.int c3), some (.int c4)]) (st' := [.int c4]) rfl rfl trivial ?_
    refine xw_G (pc' := 13) (st' := [.int c2, .int c4]) rfl rfl trivial ?_
    refine xj_ic_ge rfl hf (fun hc1 hf => ?_) (fun hc1 hf => ?_)
    · refine xw_G (pc' := 17) (st' := [.ref c0]) rfl rfl trivial ?_
      refine xw_G (pc' := 19) (st' := [.int c4, .ref c0]) rfl rfl trivial ?_
      refine xw_G (pc' := 20) (st' := [.int c3, .int c4, .ref c0]) rfl rfl trivial ?_
      refine xg_e hf (fun hg2 hf => ?_)
      refine xg_e hf (fun hg3 hf => ?_)
      refine xg_e hf (fun hg4 hf => ?_)
      refine xa_b rfl hg2 rfl hg3 hg4 hf (fun h5 e6 hf => ?_)
      have hS := xS_si hS e6
      refine xw_G (pc' := 24) (ls' := [some (.ref c0), none, some (.int c2), some (.int c3), some (.int (c4 + (1 : Int32)))]) (st' := []) rfl rfl (Nat.le_of_ble_eq_true rfl) ?_
      refine xw_G (pc' := 10) (st' := []) rfl rfl trivial ?_
      refine xw_M rfl rfl ?_
      exact ih _ _ hS hf
    · exact xr_v (inj := xjv) rfl rfl hf hQ hS
theorem t_J7_fill_eb02e {N : Nat} {ρ : Nat} {δ : Nat} {x0 : Nat} {x1 : Int32} {x2 : Int32} {x3 : Int32} {h : xm_H} {w : Unit × xm_H}  (hS : xS ρ δ h) (hf : f_J7_fill_eb02e N x0 x1 x2 x3 h = some w) : xm_Rn xX 2 317 [.ref x0, .int x1, .int x2, .int x3] h (xjv w.1) w.2 ∧ xS ρ δ w.2 := by
  refine xt_mk (φ := fun h => xS ρ δ h) (M := xM_J7_fill_eb02e) (ls := [some (.ref x0), some (.int x1), some (.int x2), some (.int x3), none]) rfl (Nat.le_of_ble_eq_true rfl) rfl (fun Q hQ => ?_)
  unfold f_J7_fill_eb02e at hf
  refine xw_G (pc' := 1) (st' := [.ref x0]) rfl rfl trivial ?_
  refine xg_e hf (fun hg1 hf => ?_)
  refine xa_len rfl hg1 rfl ?_
  refine xw_G (pc' := 3) (st' := [.int x1, .int (Int32.ofNat (xm_k h x0).2)]) rfl rfl trivial ?_
  refine xw_G (pc' := 4) (st' := [.int x2, .int x1, .int (Int32.ofNat (xm_k h x0).2)]) rfl rfl trivial ?_
  refine xb_e hf (fun v2 h3 e4 hf => ?_)
  refine xw_S (v := none) rfl (Nat.le_of_ble_eq_true rfl) (Nat.le_of_ble_eq_true rfl) (xm_Rn_le (Nat.le_of_ble_eq_true rfl) (t_J7_rangeCheck_23922  hS e4).1) ?_
  have hS := (t_J7_rangeCheck_23922  hS e4).2
  show xm_W _ _ _ 7 _ [] _
  refine xw_G (pc' := 8) (st' := [.int x1]) rfl rfl trivial ?_
  refine xw_G (pc' := 10) (ls' := [some (.ref x0), some (.int x1), some (.int x2), some (.int x3), some (.int x1)]) (st' := []) rfl rfl (Nat.le_of_ble_eq_true rfl) ?_
  refine xw_M rfl rfl ?_
  refine tl_J7_fill_eb02e_10  hQ  _ _ _ hS hf
def f_J1_fillNull_b72d1 (N : Nat) (x0 : Nat) (x1 : Int32) (x2 : Int32) (h : xm_H) : Option (Unit × xm_H) := (xb (f_J7_fill_eb02e N x0 x1 x2 (0 : Int32) h) fun v1 h2 => (some ((), h2)))
theorem t_J1_fillNull_b72d1 {N : Nat} {ρ : Nat} {δ : Nat} {x0 : Nat} {x1 : Int32} {x2 : Int32} {h : xm_H} {w : Unit × xm_H}  (hS : xS ρ δ h) (hf : f_J1_fillNull_b72d1 N x0 x1 x2 h = some w) : xm_Rn xX 3 293 [.ref x0, .int x1, .int x2] h (xjv w.1) w.2 ∧ xS ρ δ w.2 := by
  refine xt_mk (φ := fun h => xS ρ δ h) (M := xM_J1_fillNull_b72d1) (ls := [some (.ref x0), some (.int x1), some (.int x2)]) rfl (Nat.le_of_ble_eq_true rfl) rfl (fun Q hQ => ?_)
  unfold f_J1_fillNull_b72d1 at hf
  refine xw_G (pc' := 1) (st' := [.ref x0]) rfl rfl trivial ?_
  refine xw_G (pc' := 2) (st' := [.int x1, .ref x0]) rfl rfl trivial ?_
  refine xw_G (pc' := 3) (st' := [.int x2, .int x1, .ref x0]) rfl rfl trivial ?_
  refine xw_G (pc' := 4) (st' := [.int (0 : Int32), .int x2, .int x1, .ref x0]) rfl rfl trivial ?_
  refine xb_e hf (fun v1 h2 e3 hf => ?_)
  refine xw_S (v := none) rfl (Nat.le_of_ble_eq_true rfl) (Nat.le_of_ble_eq_true rfl) (xm_Rn_le (Nat.le_of_ble_eq_true rfl) (t_J7_fill_eb02e  hS e3).1) ?_
  have hS := (t_J7_fill_eb02e  hS e3).2
  show xm_W _ _ _ 7 _ [] _
  exact xr_v (inj := xjv) rfl rfl hf hQ hS
