/-! printed by wip/gen/gen23.py: methods as functions of their arguments and the heap -/
def f_L_bestMode (N : Nat) (ρ : Nat) (x1 : Int32) (x2 : Int32) (x3 : Int32) (x4 : Int32) (h : xm_H) : Option (Int32 × xm_H) := (xe (f_X10_bestMode N ρ x1 x2 x3 x4 h) (fun v1 h2 => (xl (xm_sl h2 316 0 (Int32.toInt64 v1)) fun h4 => (some ((0 : Int32), h4)))) (fun q6 h7 => (if (q6).1 = 14 then (some ((1 : Int32), h7)) else (if (q6).1 = 15 then (some ((2 : Int32), h7)) else none))))
theorem t_L_bestMode {N : Nat} {ρ : Nat} {δ : Nat} {x1 : Int32} {x2 : Int32} {x3 : Int32} {x4 : Int32} {h : xm_H} {w : Int32 × xm_H}  (hS : xS ρ δ h) (hf : f_L_bestMode N ρ x1 x2 x3 x4 h = some w) : xm_Rn xX 7 344 [.ref 160, .int x1, .int x2, .int x3, .int x4, .ref 316] h (xji w.1) w.2 ∧ xS ρ δ w.2 := by
  refine xt_mk (φ := fun h => xS ρ δ h) (M := xM_L_bestMode) (ls := [some (.ref 160), some (.int x1), some (.int x2), some (.int x3), some (.int x4), some (.ref 316), none]) rfl (Nat.le_of_ble_eq_true rfl) rfl (fun Q hQ => ?_)
  unfold f_L_bestMode at hf
  refine xw_G (pc' := 2) (st' := [.ref 316]) rfl rfl trivial ?_
  refine xw_G (pc' := 3) (st' := [.int (0 : Int32), .ref 316]) rfl rfl trivial ?_
  refine xw_G (pc' := 4) (st' := [.ref 160, .int (0 : Int32), .ref 316]) rfl rfl trivial ?_
  refine xw_G (pc' := 5) (st' := [.int x1, .ref 160, .int (0 : Int32), .ref 316]) rfl rfl trivial ?_
  refine xw_G (pc' := 6) (st' := [.int x2, .int x1, .ref 160, .int (0 : Int32), .ref 316]) rfl rfl trivial ?_
  refine xw_G (pc' := 7) (st' := [.int x3, .int x2, .int x1, .ref 160, .int (0 : Int32), .ref 316]) rfl rfl trivial ?_
  refine xw_G (pc' := 9) (st' := [.int x4, .int x3, .int x2, .int x1, .ref 160, .int (0 : Int32), .ref 316]) rfl rfl trivial ?_
  refine xe_e hf (fun v1 h2 e3 hf => ?_) (fun q6 h7 e3 hf => ?_)
  · refine xw_V (v := some (.int v1)) rfl rfl (xkf (xs_k hS rfl rfl : xm_k h 160 = (0, 0))) (Nat.le_of_ble_eq_true rfl) (Nat.le_of_ble_eq_true rfl) (xm_Rn_le (Nat.le_of_ble_eq_true rfl) (t_X10_bestMode  hS e3).1) ?_
    have hS := (t_X10_bestMode  hS e3).2
    show xm_W _ _ _ 12 _ [.int v1, .int (0 : Int32), .ref 316] _
    refine xw_G (pc' := 13) (st' := [.long (Int32.toInt64 v1), .int (0 : Int32), .ref 316]) rfl rfl trivial ?_
    refine xa_l rfl (xkf (xs_k hS rfl rfl : xm_k h2 316 = (104, 1))) (xkn (xs_k hS rfl rfl : xm_k h2 316 = (104, 1))) (by decide : xin (0 : Int32) 1) (Nat.le_of_ble_eq_true rfl) hf (fun h4 e5 hf => ?_)
    have hS := xS_sl hS e5
    refine xw_G (pc' := 25) (st' := []) rfl rfl trivial ?_
    refine xw_G (pc' := 26) (st' := [.int (0 : Int32)]) rfl rfl trivial ?_
    exact xr_i (inj := xji) rfl rfl rfl rfl hf hQ hS
  · by_cases hc8 : (q6).1 = 14
    · rw [if_pos hc8] at hf
      refine xw_VH (x := q6) (p := 17) rfl rfl (xkf (xs_k hS rfl rfl : xm_k h 160 = (0, 0))) (Nat.le_of_ble_eq_true rfl) (Nat.le_of_ble_eq_true rfl) (xm_Rn_le (Nat.le_of_ble_eq_true rfl) (t_X10_bestMode  hS e3).1) (by rw [hc8]; rfl) ?_
      have hS := (t_X10_bestMode  hS e3).2
      refine xw_G (pc' := 19) (ls' := [some (.ref 160), some (.int x1), some (.int x2), some (.int x3), some (.int x4), some (.ref 316), some (.ref ((q6).2))]) (st' := []) rfl rfl (Nat.le_of_ble_eq_true rfl) ?_
      refine xw_G (pc' := 20) (st' := [.int (1 : Int32)]) rfl rfl trivial ?_
      exact xr_i (inj := xji) rfl rfl rfl rfl hf hQ hS
    · rw [if_neg hc8] at hf
      by_cases hc8 : (q6).1 = 15
      · rw [if_pos hc8] at hf
        refine xw_VH (x := q6) (p := 21) rfl rfl (xkf (xs_k hS rfl rfl : xm_k h 160 = (0, 0))) (Nat.le_of_ble_eq_true rfl) (Nat.le_of_ble_eq_true rfl) (xm_Rn_le (Nat.le_of_ble_eq_true rfl) (t_X10_bestMode  hS e3).1) (by rw [hc8]; rfl) ?_
        have hS := (t_X10_bestMode  hS e3).2
        refine xw_G (pc' := 23) (ls' := [some (.ref 160), some (.int x1), some (.int x2), some (.int x3), some (.int x4), some (.ref 316), some (.ref ((q6).2))]) (st' := []) rfl rfl (Nat.le_of_ble_eq_true rfl) ?_
        refine xw_G (pc' := 24) (st' := [.int (2 : Int32)]) rfl rfl trivial ?_
        exact xr_i (inj := xji) rfl rfl rfl rfl hf hQ hS
      · rw [if_neg hc8] at hf
        exact (xn_e hf).elim
def f_X11_impressionsOf_4B (N : Nat) (c1 : Int32) (rec : Int32 → Int32 → xm_H → Option (Int32 × xm_H)) (c2 : Int32) (c3 : Int32) (h : xm_H) : Option (Int32 × xm_H) := (if c3 < (xm_i h 303 1) then (xb (f_X11_impressionAt c3 (2 : Int32) h) fun v2 h3 => (if v2 = c1 then (rec (c2 + (1 : Int32)) (c3 + (1 : Int32)) h3) else (rec (c2 + (0 : Int32)) (c3 + (1 : Int32)) h3))) else (some (c2, h)))
def f_X11_impressionsOf_4 (N : Nat) (c1 : Int32) : Nat → Int32 → Int32 → xm_H → Option (Int32 × xm_H)
  | 0 => fun _ _ _ => none
  | n + 1 => fun c2 c3 h => f_X11_impressionsOf_4B N c1 (f_X11_impressionsOf_4 N c1 n) c2 c3 h
def f_X11_impressionsOf (N : Nat) (x1 : Int32) (h : xm_H) : Option (Int32 × xm_H) := (f_X11_impressionsOf_4 N x1 N (0 : Int32) (0 : Int32) h)
theorem tl_X11_impressionsOf_4 {ρ : Nat} {δ : Nat} {N : Nat} {c1 : Int32} {Q : xm_O → xm_H → Prop} {w : Int32 × xm_H}  (hQ : xS ρ δ w.2 → Q (xji w.1) w.2)  : ∀ (n : Nat) (c2 : Int32) (c3 : Int32) (h : xm_H), xS ρ δ h → f_X11_impressionsOf_4 N c1 n c2 c3 h = some w → xm_W (xm_Rn xX 1) xM_X11_impressionsOf Q 4 [some (.ref 302), some (.int c1), some (.int c2), some (.int c3)] [] h := by
  intro n
  induction n with
  | zero =>
    intro c2 c3 h hS hf
    exact (xn_e hf).elim
  | succ n ih =>
    intro c2 c3 h hS hf
    replace hf : f_X11_impressionsOf_4B N c1 (f_X11_impressionsOf_4 N c1 n) c2 c3 h = some w := hf
    unfold f_X11_impressionsOf_4B at hf
    refine xw_K (pc' := 5) (ls' := [some (.ref 302), some (.int c1), some (.int c2), some (.int c3)]) (st' := [.int c3]) rfl rfl trivial ?_
    refine xw_G (pc' := 6) (st' := [.ref 302, .int c3]) rfl rfl trivial ?_
    refine xw_gr rfl (xkf (xs_k hS rfl rfl : xm_k h 302 = (11, 0))) (xs_r hS rfl) ?_
    refine xw_G (pc' := 10) (st' := [.int (1 : Int32), .ref 303, .int c3]) rfl rfl trivial ?_
    refine xa_ld (t := 100) (τ := 0) (v := .int (xm_i h 303 1)) rfl rfl (xkf (xs_k hS rfl rfl : xm_k h 303 = (100, 2217))) (xkn (xs_k hS rfl rfl : xm_k h 303 = (100, 2217))) (by decide : xin (1 : Int32) 2217) rfl ?_
    refine xj_ic_ge rfl hf (fun hc1 hf => ?_) (fun hc1 hf => ?_)
    · refine xw_G (pc' := 15) (st' := [.int c2]) rfl rfl trivial ?_
      refine xw_G (pc' := 16) (st' := [.ref 302, .int c2]) rfl rfl trivial ?_
      refine xw_G (pc' := 17) (st' := [.int c3, .ref 302, .int c2]) rfl rfl trivial ?_
      refine xw_G (pc' := 18) (st' := [.int (2 : Int32), .int c3, .ref 302, .int c2]) rfl rfl trivial ?_
      refine xb_e hf (fun v2 h3 e4 hf => ?_)
      refine xw_V (v := some (.int v2)) rfl rfl (xkf (xs_k hS rfl rfl : xm_k h 302 = (11, 0))) (Nat.le_of_ble_eq_true rfl) (Nat.le_of_ble_eq_true rfl) (xm_Rn_le (Nat.le_of_ble_eq_true rfl) (t_X11_impressionAt  hS e4).1) ?_
      have hS := (t_X11_impressionAt  hS e4).2
      show xm_W _ _ _ 21 _ [.int v2, .int c2] _
      refine xw_G (pc' := 22) (st' := [.int c1, .int v2, .int c2]) rfl rfl trivial ?_
      refine xj_ic_ne rfl hf (fun hc5 hf => ?_) (fun hc5 hf => ?_)
      · refine xw_G (pc' := 26) (st' := [.int (1 : Int32), .int c2]) rfl rfl trivial ?_
        refine xw_G (pc' := 30) (st' := [.int (1 : Int32), .int c2]) rfl rfl trivial ?_
        refine xw_G (pc' := 31) (st' := [.int (c2 + (1 : Int32))]) rfl rfl trivial ?_
        refine xw_G (pc' := 32) (ls' := [some (.ref 302), some (.int c1), some (.int (c2 + (1 : Int32))), some (.int c3)]) (st' := []) rfl rfl (Nat.le_of_ble_eq_true rfl) ?_
        refine xw_G (pc' := 35) (ls' := [some (.ref 302), some (.int c1), some (.int (c2 + (1 : Int32))), some (.int (c3 + (1 : Int32)))]) (st' := []) rfl rfl (Nat.le_of_ble_eq_true rfl) ?_
        refine xw_G (pc' := 4) (st' := []) rfl rfl trivial ?_
        refine xw_M rfl rfl ?_
        exact ih _ _ _ hS hf
      · refine xw_G (pc' := 30) (st' := [.int (0 : Int32), .int c2]) rfl rfl trivial ?_
        refine xw_G (pc' := 31) (st' := [.int (c2 + (0 : Int32))]) rfl rfl trivial ?_
        refine xw_G (pc' := 32) (ls' := [some (.ref 302), some (.int c1), some (.int (c2 + (0 : Int32))), some (.int c3)]) (st' := []) rfl rfl (Nat.le_of_ble_eq_true rfl) ?_
        refine xw_G (pc' := 35) (ls' := [some (.ref 302), some (.int c1), some (.int (c2 + (0 : Int32))), some (.int (c3 + (1 : Int32)))]) (st' := []) rfl rfl (Nat.le_of_ble_eq_true rfl) ?_
        refine xw_G (pc' := 4) (st' := []) rfl rfl trivial ?_
        refine xw_M rfl rfl ?_
        exact ih _ _ _ hS hf
    · refine xw_G (pc' := 39) (st' := [.int c2]) rfl rfl trivial ?_
      exact xr_i (inj := xji) rfl rfl rfl rfl hf hQ hS
theorem t_X11_impressionsOf {N : Nat} {ρ : Nat} {δ : Nat} {x1 : Int32} {h : xm_H} {w : Int32 × xm_H}  (hS : xS ρ δ h) (hf : f_X11_impressionsOf N x1 h = some w) : xm_Rn xX 2 212 [.ref 302, .int x1] h (xji w.1) w.2 ∧ xS ρ δ w.2 := by
  refine xt_mk (φ := fun h => xS ρ δ h) (M := xM_X11_impressionsOf) (ls := [some (.ref 302), some (.int x1), none, none]) rfl (Nat.le_of_ble_eq_true rfl) rfl (fun Q hQ => ?_)
  unfold f_X11_impressionsOf at hf
  refine xw_G (pc' := 1) (st' := [.int (0 : Int32)]) rfl rfl trivial ?_
  refine xw_G (pc' := 2) (ls' := [some (.ref 302), some (.int x1), some (.int (0 : Int32)), none]) (st' := []) rfl rfl (Nat.le_of_ble_eq_true rfl) ?_
  refine xw_G (pc' := 3) (st' := [.int (0 : Int32)]) rfl rfl trivial ?_
  refine xw_G (pc' := 4) (ls' := [some (.ref 302), some (.int x1), some (.int (0 : Int32)), some (.int (0 : Int32))]) (st' := []) rfl rfl (Nat.le_of_ble_eq_true rfl) ?_
  refine xw_M rfl rfl ?_
  refine tl_X11_impressionsOf_4  hQ  _ _ _ _ hS hf
def f_X11_bestMode_57B (N : Nat) (c1 : Int32) (c2 : Int32) (c3 : Int32) (c4 : Int32) (rec : Int32 → Int32 → Int32 → xm_H → Option (Int32 × xm_H)) (c5 : Int32) (c6 : Int32) (c7 : Int32) (h : xm_H) : Option (Int32 × xm_H) := (if (2 : Int32) < c7 then (some (c5, h)) else (xb (f_X11_set c1 (4 : Int32) c7 h) fun v2 h3 => (xb (f_X11_set c1 (3 : Int32) (100 : Int32) h3) fun v5 h6 => (xb (f_X11_goAhead N c2 c3 c4 h6) fun v8 h9 => (xb (f_X11_impressionsOf N c1 h9) fun v11 h12 => (xb (f_X11_copy N 304 303 h12) fun v14 h15 => (if c6 < v11 then (rec c7 v11 (c7 + (1 : Int32)) h15) else (rec c5 c6 (c7 + (1 : Int32)) h15))))))))
def f_X11_bestMode_57 (N : Nat) (c1 : Int32) (c2 : Int32) (c3 : Int32) (c4 : Int32) : Nat → Int32 → Int32 → Int32 → xm_H → Option (Int32 × xm_H)
  | 0 => fun _ _ _ _ => none
  | n + 1 => fun c5 c6 c7 h => f_X11_bestMode_57B N c1 c2 c3 c4 (f_X11_bestMode_57 N c1 c2 c3 c4 n) c5 c6 c7 h
def f_X11_bestMode (N : Nat) (x1 : Int32) (x2 : Int32) (x3 : Int32) (x4 : Int32) (h : xm_H) : Option (Int32 × xm_H) := (xb (f_X11_isCampaign x1 h) fun v1 h2 => (if v1 = 0 then (xb (f_X11_isAhead x3 x4 h2) fun v5 h6 => (xb (f_X11_good_ (0 : Int32) v5 h6) fun v8 h9 => (if v8 = 0 then (some ((0 : Int32), h9)) else (xb (f_X11_copy N 303 304 h9) fun v12 h13 => (f_X11_bestMode_57 N x1 x2 x3 x4 N (0 : Int32) (-1 : Int32) (0 : Int32) h13))))) else (xb (f_X11_isTag x2 h2) fun v15 h16 => (if v15 = 0 then (xb (f_X11_isAhead x3 x4 h16) fun v19 h20 => (xb (f_X11_good_ (0 : Int32) v19 h20) fun v22 h23 => (if v22 = 0 then (some ((0 : Int32), h23)) else (xb (f_X11_copy N 303 304 h23) fun v26 h27 => (f_X11_bestMode_57 N x1 x2 x3 x4 N (0 : Int32) (-1 : Int32) (0 : Int32) h27))))) else (xb (f_X11_isAhead x3 x4 h16) fun v29 h30 => (xb (f_X11_good_ (1 : Int32) v29 h30) fun v32 h33 => (if v32 = 0 then (some ((0 : Int32), h33)) else (xb (f_X11_copy N 303 304 h33) fun v36 h37 => (f_X11_bestMode_57 N x1 x2 x3 x4 N (0 : Int32) (-1 : Int32) (0 : Int32) h37)))))))))
theorem tl_X11_bestMode_57 {ρ : Nat} {δ : Nat} {N : Nat} {c1 : Int32} {c2 : Int32} {c3 : Int32} {c4 : Int32} {Q : xm_O → xm_H → Prop} {w : Int32 × xm_H}  (hQ : xS ρ δ w.2 → Q (xji w.1) w.2)  : ∀ (n : Nat) (c5 : Int32) (c6 : Int32) (c7 : Int32) (h : xm_H), xS ρ δ h → f_X11_bestMode_57 N c1 c2 c3 c4 n c5 c6 c7 h = some w → xm_W (xm_Rn xX 5) xM_X11_bestMode Q 57 [some (.ref 302), some (.int c1), some (.int c2), some (.int c3), some (.int c4), some (.int c5), some (.int c6), some (.int c7), none, none] [] h := by
  intro n
  induction n with
  | zero =>
    intro c5 c6 c7 h hS hf
    exact (xn_e hf).elim
  | succ n ih =>
    intro c5 c6 c7 h hS hf
    replace hf : f_X11_bestMode_57B N c1 c2 c3 c4 (f_X11_bestMode_57 N c1 c2 c3 c4 n) c5 c6 c7 h = some w := hf
    unfold f_X11_bestMode_57B at hf
    refine xw_K (pc' := 59) (ls' := [some (.ref 302), some (.int c1), some (.int c2), some (.int c3), some (.int c4), some (.int c5), some (.int c6), some (.int c7), none, none]) (st' := [.int c7]) rfl rfl trivial ?_
    refine xw_G (pc' := 60) (st' := [.int (2 : Int32), .int c7]) rfl rfl trivial ?_
    refine xj_ic_gt rfl hf (fun hc1 hf => ?_) (fun hc1 hf => ?_)
    · refine xw_G (pc' := 130) (st' := [.int c5]) rfl rfl trivial ?_
      exact xr_i (inj := xji) rfl rfl rfl rfl hf hQ hS
    · refine xw_G (pc' := 64) (st' := [.ref 302]) rfl rfl trivial ?_
      refine xw_G (pc' := 65) (st' := [.int c1, .ref 302]) rfl rfl trivial ?_
      refine xw_G (pc' := 66) (st' := [.int (4 : Int32), .int c1, .ref 302]) rfl rfl trivial ?_
      refine xw_G (pc' := 68) (st' := [.int c7, .int (4 : Int32), .int c1, .ref 302]) rfl rfl trivial ?_
      refine xb_e hf (fun v2 h3 e4 hf => ?_)
      refine xw_V (v := none) rfl rfl (xkf (xs_k hS rfl rfl : xm_k h 302 = (11, 0))) (Nat.le_of_ble_eq_true rfl) (Nat.le_of_ble_eq_true rfl) (xm_Rn_le (Nat.le_of_ble_eq_true rfl) (t_X11_set  hS e4).1) ?_
      have hS := (t_X11_set  hS e4).2
      show xm_W _ _ _ 71 _ [] _
      refine xw_G (pc' := 72) (st' := [.ref 302]) rfl rfl trivial ?_
      refine xw_G (pc' := 73) (st' := [.int c1, .ref 302]) rfl rfl trivial ?_
      refine xw_G (pc' := 74) (st' := [.int (3 : Int32), .int c1, .ref 302]) rfl rfl trivial ?_
      refine xw_G (pc' := 76) (st' := [.int (100 : Int32), .int (3 : Int32), .int c1, .ref 302]) rfl rfl trivial ?_
      refine xb_e hf (fun v5 h6 e7 hf => ?_)
      refine xw_V (v := none) rfl rfl (xkf (xs_k hS rfl rfl : xm_k h3 302 = (11, 0))) (Nat.le_of_ble_eq_true rfl) (Nat.le_of_ble_eq_true rfl) (xm_Rn_le (Nat.le_of_ble_eq_true rfl) (t_X11_set  hS e7).1) ?_
      have hS := (t_X11_set  hS e7).2
      show xm_W _ _ _ 79 _ [] _
      refine xw_G (pc' := 80) (st' := [.ref 302]) rfl rfl trivial ?_
      refine xw_G (pc' := 81) (st' := [.int c2, .ref 302]) rfl rfl trivial ?_
      refine xw_G (pc' := 82) (st' := [.int c3, .int c2, .ref 302]) rfl rfl trivial ?_
      refine xw_G (pc' := 84) (st' := [.int c4, .int c3, .int c2, .ref 302]) rfl rfl trivial ?_
      refine xb_e hf (fun v8 h9 e10 hf => ?_)
      refine xw_V (v := some (.int v8)) rfl rfl (xkf (xs_k hS rfl rfl : xm_k h6 302 = (11, 0))) (Nat.le_of_ble_eq_true rfl) (Nat.le_of_ble_eq_true rfl) (xm_Rn_le (Nat.le_of_ble_eq_true rfl) (t_X11_goAhead  hS e10).1) ?_
      have hS := (t_X11_goAhead  hS e10).2
      show xm_W _ _ _ 87 _ [.int v8] _
      refine xw_G (pc' := 89) (ls' := [some (.ref 302), some (.int c1), some (.int c2), some (.int c3), some (.int c4), some (.int c5), some (.int c6), some (.int c7), some (.int v8), none]) (st' := []) rfl rfl (Nat.le_of_ble_eq_true rfl) ?_
      refine xw_G (pc' := 90) (st' := [.ref 302]) rfl rfl trivial ?_
      refine xw_G (pc' := 91) (st' := [.int c1, .ref 302]) rfl rfl trivial ?_
      refine xb_e hf (fun v11 h12 e13 hf => ?_)
      refine xw_V (v := some (.int v11)) rfl rfl (xkf (xs_k hS rfl rfl : xm_k h9 302 = (11, 0))) (Nat.le_of_ble_eq_true rfl) (Nat.le_of_ble_eq_true rfl) (xm_Rn_le (Nat.le_of_ble_eq_true rfl) (t_X11_impressionsOf  hS e13).1) ?_
      have hS := (t_X11_impressionsOf  hS e13).2
      show xm_W _ _ _ 94 _ [.int v11] _
      refine xw_G (pc' := 96) (ls' := [some (.ref 302), some (.int c1), some (.int c2), some (.int c3), some (.int c4), some (.int c5), some (.int c6), some (.int c7), some (.int v8), some (.int v11)]) (st' := []) rfl rfl (Nat.le_of_ble_eq_true rfl) ?_
      refine xw_G (pc' := 97) (st' := [.ref 302]) rfl rfl trivial ?_
      refine xw_gr rfl (xkf (xs_k hS rfl rfl : xm_k h12 302 = (11, 0))) (xs_r hS rfl) ?_
      refine xw_G (pc' := 101) (st' := [.ref 302, .ref 304]) rfl rfl trivial ?_
      refine xw_gr rfl (xkf (xs_k hS rfl rfl : xm_k h12 302 = (11, 0))) (xs_r hS rfl) ?_
      refine xb_e hf (fun v14 h15 e16 hf => ?_)
      refine xw_S (v := none) rfl (Nat.le_of_ble_eq_true rfl) (Nat.le_of_ble_eq_true rfl) (xm_Rn_le (Nat.le_of_ble_eq_true rfl) (t_X11_copy  hS e16).1) ?_
      have hS := (t_X11_copy  hS e16).2
      show xm_W _ _ _ 107 _ [] _
      refine xw_G (pc' := 109) (st' := [.int v11]) rfl rfl trivial ?_
      refine xw_G (pc' := 111) (st' := [.int c6, .int v11]) rfl rfl trivial ?_
      refine xj_ic_le rfl hf (fun hc17 hf => ?_) (fun hc17 hf => ?_)
      · refine xw_G (pc' := 116) (st' := [.int c7]) rfl rfl trivial ?_
        refine xw_G (pc' := 118) (ls' := [some (.ref 302), some (.int c1), some (.int c2), some (.int c3), some (.int c4), some (.int c7), some (.int c6), some (.int c7), some (.int v8), some (.int v11)]) (st' := []) rfl rfl (Nat.le_of_ble_eq_true rfl) ?_
        refine xw_G (pc' := 120) (st' := [.int v11]) rfl rfl trivial ?_
        refine xw_G (pc' := 122) (ls' := [some (.ref 302), some (.int c1), some (.int c2), some (.int c3), some (.int c4), some (.int c7), some (.int v11), some (.int c7), some (.int v8), some (.int v11)]) (st' := []) rfl rfl (Nat.le_of_ble_eq_true rfl) ?_
        refine xw_G (pc' := 125) (ls' := [some (.ref 302), some (.int c1), some (.int c2), some (.int c3), some (.int c4), some (.int c7), some (.int v11), some (.int (c7 + (1 : Int32))), some (.int v8), some (.int v11)]) (st' := []) rfl rfl (Nat.le_of_ble_eq_true rfl) ?_
        refine xw_G (pc' := 57) (st' := []) rfl rfl trivial ?_
        refine xw_M rfl rfl ?_
        exact ih _ _ _ _ hS hf
      · refine xw_G (pc' := 125) (ls' := [some (.ref 302), some (.int c1), some (.int c2), some (.int c3), some (.int c4), some (.int c5), some (.int c6), some (.int (c7 + (1 : Int32))), some (.int v8), some (.int v11)]) (st' := []) rfl rfl (Nat.le_of_ble_eq_true rfl) ?_
        refine xw_G (pc' := 57) (st' := []) rfl rfl trivial ?_
        refine xw_M rfl rfl ?_
        exact ih _ _ _ _ hS hf
theorem t_X11_bestMode {N : Nat} {ρ : Nat} {δ : Nat} {x1 : Int32} {x2 : Int32} {x3 : Int32} {x4 : Int32} {h : xm_H} {w : Int32 × xm_H}  (hS : xS ρ δ h) (hf : f_X11_bestMode N x1 x2 x3 x4 h = some w) : xm_Rn xX 6 213 [.ref 302, .int x1, .int x2, .int x3, .int x4] h (xji w.1) w.2 ∧ xS ρ δ w.2 := by
  refine xt_mk (φ := fun h => xS ρ δ h) (M := xM_X11_bestMode) (ls := [some (.ref 302), some (.int x1), some (.int x2), some (.int x3), some (.int x4), none, none, none, none, none]) rfl (Nat.le_of_ble_eq_true rfl) rfl (fun Q hQ => ?_)
  unfold f_X11_bestMode at hf
  refine xw_G (pc' := 1) (st' := [.ref 302]) rfl rfl trivial ?_
  refine xw_G (pc' := 2) (st' := [.ref 302, .ref 302]) rfl rfl trivial ?_
  refine xw_G (pc' := 3) (st' := [.int x1, .ref 302, .ref 302]) rfl rfl trivial ?_
  refine xb_e hf (fun v1 h2 e3 hf => ?_)
  refine xw_V (v := some (.int v1)) rfl rfl (xkf (xs_k hS rfl rfl : xm_k h 302 = (11, 0))) (Nat.le_of_ble_eq_true rfl) (Nat.le_of_ble_eq_true rfl) (xm_Rn_le (Nat.le_of_ble_eq_true rfl) (t_X11_isCampaign  hS e3).1) ?_
  have hS := (t_X11_isCampaign  hS e3).2
  show xm_W _ _ _ 6 _ [.int v1, .ref 302] _
  refine xj_if_eq rfl hf (fun hc4 hf => ?_) (fun hc4 hf => ?_)
  · refine xw_G (pc' := 22) (st' := [.int (0 : Int32), .ref 302]) rfl rfl trivial ?_
    refine xw_G (pc' := 23) (st' := [.ref 302, .int (0 : Int32), .ref 302]) rfl rfl trivial ?_
    refine xw_G (pc' := 24) (st' := [.int x3, .ref 302, .int (0 : Int32), .ref 302]) rfl rfl trivial ?_
    refine xw_G (pc' := 26) (st' := [.int x4, .int x3, .ref 302, .int (0 : Int32), .ref 302]) rfl rfl trivial ?_
    refine xb_e hf (fun v5 h6 e7 hf => ?_)
    refine xw_V (v := some (.int v5)) rfl rfl (xkf (xs_k hS rfl rfl : xm_k h2 302 = (11, 0))) (Nat.le_of_ble_eq_true rfl) (Nat.le_of_ble_eq_true rfl) (xm_Rn_le (Nat.le_of_ble_eq_true rfl) (t_X11_isAhead  hS e7).1) ?_
    have hS := (t_X11_isAhead  hS e7).2
    show xm_W _ _ _ 29 _ [.int v5, .int (0 : Int32), .ref 302] _
    refine xb_e hf (fun v8 h9 e10 hf => ?_)
    refine xw_V (v := some (.int v8)) rfl rfl (xkf (xs_k hS rfl rfl : xm_k h6 302 = (11, 0))) (Nat.le_of_ble_eq_true rfl) (Nat.le_of_ble_eq_true rfl) (xm_Rn_le (Nat.le_of_ble_eq_true rfl) (t_X11_good_  hS e10).1) ?_
    have hS := (t_X11_good_  hS e10).2
    show xm_W _ _ _ 32 _ [.int v8] _
    refine xj_if_ne rfl hf (fun hc11 hf => ?_) (fun hc11 hf => ?_)
    · refine xw_G (pc' := 36) (st' := [.int (0 : Int32)]) rfl rfl trivial ?_
      exact xr_i (inj := xji) rfl rfl rfl rfl hf hQ hS
    · refine xw_G (pc' := 38) (st' := [.ref 302]) rfl rfl trivial ?_
      refine xw_gr rfl (xkf (xs_k hS rfl rfl : xm_k h9 302 = (11, 0))) (xs_r hS rfl) ?_
      refine xw_G (pc' := 42) (st' := [.ref 302, .ref 303]) rfl rfl trivial ?_
      refine xw_gr rfl (xkf (xs_k hS rfl rfl : xm_k h9 302 = (11, 0))) (xs_r hS rfl) ?_
      refine xb_e hf (fun v12 h13 e14 hf => ?_)
      refine xw_S (v := none) rfl (Nat.le_of_ble_eq_true rfl) (Nat.le_of_ble_eq_true rfl) (xm_Rn_le (Nat.le_of_ble_eq_true rfl) (t_X11_copy  hS e14).1) ?_
      have hS := (t_X11_copy  hS e14).2
      show xm_W _ _ _ 48 _ [] _
      refine xw_G (pc' := 49) (st' := [.int (0 : Int32)]) rfl rfl trivial ?_
      refine xw_G (pc' := 51) (ls' := [some (.ref 302), some (.int x1), some (.int x2), some (.int x3), some (.int x4), some (.int (0 : Int32)), none, none, none, none]) (st' := []) rfl rfl (Nat.le_of_ble_eq_true rfl) ?_
      refine xw_G (pc' := 52) (st' := [.int (-1 : Int32)]) rfl rfl trivial ?_
      refine xw_G (pc' := 54) (ls' := [some (.ref 302), some (.int x1), some (.int x2), some (.int x3), some (.int x4), some (.int (0 : Int32)), some (.int (-1 : Int32)), none, none, none]) (st' := []) rfl rfl (Nat.le_of_ble_eq_true rfl) ?_
      refine xw_G (pc' := 55) (st' := [.int (0 : Int32)]) rfl rfl trivial ?_
      refine xw_G (pc' := 57) (ls' := [some (.ref 302), some (.int x1), some (.int x2), some (.int x3), some (.int x4), some (.int (0 : Int32)), some (.int (-1 : Int32)), some (.int (0 : Int32)), none, none]) (st' := []) rfl rfl (Nat.le_of_ble_eq_true rfl) ?_
      refine xw_M rfl rfl ?_
      refine tl_X11_bestMode_57  hQ  _ _ _ _ _ hS hf
  · refine xw_G (pc' := 10) (st' := [.ref 302, .ref 302]) rfl rfl trivial ?_
    refine xw_G (pc' := 11) (st' := [.int x2, .ref 302, .ref 302]) rfl rfl trivial ?_
    refine xb_e hf (fun v15 h16 e17 hf => ?_)
    refine xw_V (v := some (.int v15)) rfl rfl (xkf (xs_k hS rfl rfl : xm_k h2 302 = (11, 0))) (Nat.le_of_ble_eq_true rfl) (Nat.le_of_ble_eq_true rfl) (xm_Rn_le (Nat.le_of_ble_eq_true rfl) (t_X11_isTag  hS e17).1) ?_
    have hS := (t_X11_isTag  hS e17).2
    show xm_W _ _ _ 14 _ [.int v15, .ref 302] _
    refine xj_if_eq rfl hf (fun hc18 hf => ?_) (fun hc18 hf => ?_)
    · refine xw_G (pc' := 22) (st' := [.int (0 : Int32), .ref 302]) rfl rfl trivial ?_
      refine xw_G (pc' := 23) (st' := [.ref 302, .int (0 : Int32), .ref 302]) rfl rfl trivial ?_
      refine xw_G (pc' := 24) (st' := [.int x3, .ref 302, .int (0 : Int32), .ref 302]) rfl rfl trivial ?_
      refine xw_G (pc' := 26) (st' := [.int x4, .int x3, .ref 302, .int (0 : Int32), .ref 302]) rfl rfl trivial ?_
      refine xb_e hf (fun v19 h20 e21 hf => ?_)
      refine xw_V (v := some (.int v19)) rfl rfl (xkf (xs_k hS rfl rfl : xm_k h16 302 = (11, 0))) (Nat.le_of_ble_eq_true rfl) (Nat.le_of_ble_eq_true rfl) (xm_Rn_le (Nat.le_of_ble_eq_true rfl) (t_X11_isAhead  hS e21).1) ?_
      have hS := (t_X11_isAhead  hS e21).2
      show xm_W _ _ _ 29 _ [.int v19, .int (0 : Int32), .ref 302] _
      refine xb_e hf (fun v22 h23 e24 hf => ?_)
      refine xw_V (v := some (.int v22)) rfl rfl (xkf (xs_k hS rfl rfl : xm_k h20 302 = (11, 0))) (Nat.le_of_ble_eq_true rfl) (Nat.le_of_ble_eq_true rfl) (xm_Rn_le (Nat.le_of_ble_eq_true rfl) (t_X11_good_  hS e24).1) ?_
      have hS := (t_X11_good_  hS e24).2
      show xm_W _ _ _ 32 _ [.int v22] _
      refine xj_if_ne rfl hf (fun hc25 hf => ?_) (fun hc25 hf => ?_)
      · refine xw_G (pc' := 36) (st' := [.int (0 : Int32)]) rfl rfl trivial ?_
        exact xr_i (inj := xji) rfl rfl rfl rfl hf hQ hS
      · refine xw_G (pc' := 38) (st' := [.ref 302]) rfl rfl trivial ?_
        refine xw_gr rfl (xkf (xs_k hS rfl rfl : xm_k h23 302 = (11, 0))) (xs_r hS rfl) ?_
        refine xw_G (pc' := 42) (st' := [.ref 302, .ref 303]) rfl rfl trivial ?_
        refine xw_gr rfl (xkf (xs_k hS rfl rfl : xm_k h23 302 = (11, 0))) (xs_r hS rfl) ?_
        refine xb_e hf (fun v26 h27 e28 hf => ?_)
        refine xw_S (v := none) rfl (Nat.le_of_ble_eq_true rfl) (Nat.le_of_ble_eq_true rfl) (xm_Rn_le (Nat.le_of_ble_eq_true rfl) (t_X11_copy  hS e28).1) ?_
        have hS := (t_X11_copy  hS e28).2
        show xm_W _ _ _ 48 _ [] _
        refine xw_G (pc' := 49) (st' := [.int (0 : Int32)]) rfl rfl trivial ?_
        refine xw_G (pc' := 51) (ls' := [some (.ref 302), some (.int x1), some (.int x2), some (.int x3), some (.int x4), some (.int (0 : Int32)), none, none, none, none]) (st' := []) rfl rfl (Nat.le_of_ble_eq_true rfl) ?_
        refine xw_G (pc' := 52) (st' := [.int (-1 : Int32)]) rfl rfl trivial ?_
        refine xw_G (pc' := 54) (ls' := [some (.ref 302), some (.int x1), some (.int x2), some (.int x3), some (.int x4), some (.int (0 : Int32)), some (.int (-1 : Int32)), none, none, none]) (st' := []) rfl rfl (Nat.le_of_ble_eq_true rfl) ?_
        refine xw_G (pc' := 55) (st' := [.int (0 : Int32)]) rfl rfl trivial ?_
        refine xw_G (pc' := 57) (ls' := [some (.ref 302), some (.int x1), some (.int x2), some (.int x3), some (.int x4), some (.int (0 : Int32)), some (.int (-1 : Int32)), some (.int (0 : Int32)), none, none]) (st' := []) rfl rfl (Nat.le_of_ble_eq_true rfl) ?_
        refine xw_M rfl rfl ?_
        refine tl_X11_bestMode_57  hQ  _ _ _ _ _ hS hf
    · refine xw_G (pc' := 18) (st' := [.int (1 : Int32), .ref 302]) rfl rfl trivial ?_
      refine xw_G (pc' := 22) (st' := [.int (1 : Int32), .ref 302]) rfl rfl trivial ?_
      refine xw_G (pc' := 23) (st' := [.ref 302, .int (1 : Int32), .ref 302]) rfl rfl trivial ?_
      refine xw_G (pc' := 24) (st' := [.int x3, .ref 302, .int (1 : Int32), .ref 302]) rfl rfl trivial ?_
      refine xw_G (pc' := 26) (st' := [.int x4, .int x3, .ref 302, .int (1 : Int32), .ref 302]) rfl rfl trivial ?_
      refine xb_e hf (fun v29 h30 e31 hf => ?_)
      refine xw_V (v := some (.int v29)) rfl rfl (xkf (xs_k hS rfl rfl : xm_k h16 302 = (11, 0))) (Nat.le_of_ble_eq_true rfl) (Nat.le_of_ble_eq_true rfl) (xm_Rn_le (Nat.le_of_ble_eq_true rfl) (t_X11_isAhead  hS e31).1) ?_
      have hS := (t_X11_isAhead  hS e31).2
      show xm_W _ _ _ 29 _ [.int v29, .int (1 : Int32), .ref 302] _
      refine xb_e hf (fun v32 h33 e34 hf => ?_)
      refine xw_V (v := some (.int v32)) rfl rfl (xkf (xs_k hS rfl rfl : xm_k h30 302 = (11, 0))) (Nat.le_of_ble_eq_true rfl) (Nat.le_of_ble_eq_true rfl) (xm_Rn_le (Nat.le_of_ble_eq_true rfl) (t_X11_good_  hS e34).1) ?_
      have hS := (t_X11_good_  hS e34).2
      show xm_W _ _ _ 32 _ [.int v32] _
      refine xj_if_ne rfl hf (fun hc35 hf => ?_) (fun hc35 hf => ?_)
      · refine xw_G (pc' := 36) (st' := [.int (0 : Int32)]) rfl rfl trivial ?_
        exact xr_i (inj := xji) rfl rfl rfl rfl hf hQ hS
      · refine xw_G (pc' := 38) (st' := [.ref 302]) rfl rfl trivial ?_
        refine xw_gr rfl (xkf (xs_k hS rfl rfl : xm_k h33 302 = (11, 0))) (xs_r hS rfl) ?_
        refine xw_G (pc' := 42) (st' := [.ref 302, .ref 303]) rfl rfl trivial ?_
        refine xw_gr rfl (xkf (xs_k hS rfl rfl : xm_k h33 302 = (11, 0))) (xs_r hS rfl) ?_
        refine xb_e hf (fun v36 h37 e38 hf => ?_)
        refine xw_S (v := none) rfl (Nat.le_of_ble_eq_true rfl) (Nat.le_of_ble_eq_true rfl) (xm_Rn_le (Nat.le_of_ble_eq_true rfl) (t_X11_copy  hS e38).1) ?_
        have hS := (t_X11_copy  hS e38).2
        show xm_W _ _ _ 48 _ [] _
        refine xw_G (pc' := 49) (st' := [.int (0 : Int32)]) rfl rfl trivial ?_
        refine xw_G (pc' := 51) (ls' := [some (.ref 302), some (.int x1), some (.int x2), some (.int x3), some (.int x4), some (.int (0 : Int32)), none, none, none, none]) (st' := []) rfl rfl (Nat.le_of_ble_eq_true rfl) ?_
        refine xw_G (pc' := 52) (st' := [.int (-1 : Int32)]) rfl rfl trivial ?_
        refine xw_G (pc' := 54) (ls' := [some (.ref 302), some (.int x1), some (.int x2), some (.int x3), some (.int x4), some (.int (0 : Int32)), some (.int (-1 : Int32)), none, none, none]) (st' := []) rfl rfl (Nat.le_of_ble_eq_true rfl) ?_
        refine xw_G (pc' := 55) (st' := [.int (0 : Int32)]) rfl rfl trivial ?_
        refine xw_G (pc' := 57) (ls' := [some (.ref 302), some (.int x1), some (.int x2), some (.int x3), some (.int x4), some (.int (0 : Int32)), some (.int (-1 : Int32)), some (.int (0 : Int32)), none, none]) (st' := []) rfl rfl (Nat.le_of_ble_eq_true rfl) ?_
        refine xw_M rfl rfl ?_
        refine tl_X11_bestMode_57  hQ  _ _ _ _ _ hS hf
def f_X3_remember  (h : xm_H) : Option (Unit × xm_H) := (xl (xm_si h 234 1 (((xm_i h 234 1) + (1 : Int32)) - ((xm_i h 234 1) + (1 : Int32)) / (8 : Int32) * (8 : Int32))) fun h1 => (if xin (xm_i h1 234 1) 8 then (xb (f_X7_copy (236 + 8 * Int32.toNatClampNeg (xm_i h1 234 1)) 201 h1) fun v4 h5 => (xl (xm_si h5 234 2 (if (8 : Int32) < ((xm_i h5 234 2) + (1 : Int32)) then (8 : Int32) else ((xm_i h5 234 2) + (1 : Int32)))) fun h7 => (some ((), h7)))) else none))
theorem t_X3_remember {ρ : Nat} {δ : Nat} {h : xm_H} {w : Unit × xm_H}  (hS : xS ρ δ h) (hf : f_X3_remember  h = some w) : xm_Rn xX 2 27 [.ref 234, .ref 201] h (xjv w.1) w.2 ∧ xS ρ δ w.2 := by
  refine xt_mk (φ := fun h => xS ρ δ h) (M := xM_X3_remember) (ls := [some (.ref 234), some (.ref 201)]) rfl (Nat.le_of_ble_eq_true rfl) rfl (fun Q hQ => ?_)
  unfold f_X3_remember at hf
  refine xw_G (pc' := 1) (st' := [.ref 234]) rfl rfl trivial ?_
  refine xw_G (pc' := 2) (st' := [.ref 234, .ref 234]) rfl rfl trivial ?_
  refine xw_G (pc' := 5) (st' := [.int (xm_i h 234 1), .ref 234]) rfl rfl (xkf (xs_k hS rfl rfl : xm_k h 234 = (4, 0))) ?_
  refine xw_G (pc' := 6) (st' := [.int (1 : Int32), .int (xm_i h 234 1), .ref 234]) rfl rfl trivial ?_
  refine xw_G (pc' := 7) (st' := [.int ((xm_i h 234 1) + (1 : Int32)), .ref 234]) rfl rfl trivial ?_
  refine xw_G (pc' := 9) (st' := [.int (8 : Int32), .int ((xm_i h 234 1) + (1 : Int32)), .ref 234]) rfl rfl trivial ?_
  refine xw_G (pc' := 10) (st' := [.int (((xm_i h 234 1) + (1 : Int32)) - ((xm_i h 234 1) + (1 : Int32)) / (8 : Int32) * (8 : Int32)), .ref 234]) rfl rfl (by decide) ?_
  refine xp_i rfl (xkf (xs_k hS rfl rfl : xm_k h 234 = (4, 0))) (Nat.le_of_ble_eq_true rfl) hf (fun h1 e2 hf => ?_)
  have hS := xS_si hS e2
  refine xw_G (pc' := 14) (st' := [.ref 234]) rfl rfl trivial ?_
  refine xw_gr rfl (xkf (xs_k hS rfl rfl : xm_k h1 234 = (4, 0))) (xs_r hS rfl) ?_
  refine xw_G (pc' := 18) (st' := [.ref 234, .ref 235]) rfl rfl trivial ?_
  refine xw_G (pc' := 21) (st' := [.int (xm_i h1 234 1), .ref 235]) rfl rfl (xkf (xs_k hS rfl rfl : xm_k h1 234 = (4, 0))) ?_
  refine xg_e hf (fun hg3 hf => ?_)
  refine xa_ar (b := (236 + 8 * Int32.toNatClampNeg (xm_i h1 234 1))) rfl (xkf (xs_k hS rfl rfl : xm_k h1 235 = (108, 8))) (xkn (xs_k hS rfl rfl : xm_k h1 235 = (108, 8))) hg3 (xsRing hS hg3) ?_
  refine xw_G (pc' := 23) (st' := [.ref 201, .ref (236 + 8 * Int32.toNatClampNeg (xm_i h1 234 1))]) rfl rfl trivial ?_
  refine xb_e hf (fun v4 h5 e6 hf => ?_)
  refine xw_V (v := none) rfl rfl (xkf (xsS0 hS (xIsS_ring (j := (xm_i h1 234 1)) hg3))) (Nat.le_of_ble_eq_true rfl) (Nat.le_of_ble_eq_true rfl) (xm_Rn_le (Nat.le_of_ble_eq_true rfl) (t_X7_copy (xIsS_ring (j := (xm_i h1 234 1)) hg3) (Or.inl rfl) hS e6).1) ?_
  have hS := (t_X7_copy (xIsS_ring (j := (xm_i h1 234 1)) hg3) (Or.inl rfl) hS e6).2
  show xm_W _ _ _ 26 _ [] _
  refine xw_G (pc' := 27) (st' := [.ref 234]) rfl rfl trivial ?_
  refine xw_G (pc' := 28) (st' := [.ref 234, .ref 234]) rfl rfl trivial ?_
  refine xw_G (pc' := 31) (st' := [.int (xm_i h5 234 2), .ref 234]) rfl rfl (xkf (xs_k hS rfl rfl : xm_k h5 234 = (4, 0))) ?_
  refine xw_G (pc' := 32) (st' := [.int (1 : Int32), .int (xm_i h5 234 2), .ref 234]) rfl rfl trivial ?_
  refine xw_G (pc' := 33) (st' := [.int ((xm_i h5 234 2) + (1 : Int32)), .ref 234]) rfl rfl trivial ?_
  refine xw_G (pc' := 35) (st' := [.int (8 : Int32), .int ((xm_i h5 234 2) + (1 : Int32)), .ref 234]) rfl rfl trivial ?_
  refine xw_min rfl (Nat.le_of_ble_eq_true rfl) ?_
  refine xp_i rfl (xkf (xs_k hS rfl rfl : xm_k h5 234 = (4, 0))) (Nat.le_of_ble_eq_true rfl) hf (fun h7 e8 hf => ?_)
  have hS := xS_si hS e8
  exact xr_v (inj := xjv) rfl rfl hf hQ hS
def f_X10_request (N : Nat) (ρ : Nat) (x1 : Int32) (x2 : Int32) (x3 : Int32) (h : xm_H) : Option ((Int32 ⊕ Nat × Nat) × xm_H) := (xe (f_X10_requireTag ρ x2 h) (fun v1 h2 => (xe (f_X10_requireUser x1 h2) (fun v4 h5 => (xe (f_X10_requireSlots ρ x3 h5) (fun v7 h8 => (if (160 : Int32) < ((xm_i h8 201 2) + x3) then (some (.inr (16, xm_n h8), xm_new h8 (16, 0))) else (xb (f_X3_remember h8) fun v11 h12 => (xb (f_X2_serve N ρ x1 x2 x3 h12) fun v14 h15 => (some (.inl v14, h15)))))) (fun q17 h18 => (some (.inr q17, h18))))) (fun q20 h21 => (some (.inr q20, h21))))) (fun q23 h24 => (some (.inr q23, h24))))
theorem t_X10_request {N : Nat} {ρ : Nat} {δ : Nat} {x1 : Int32} {x2 : Int32} {x3 : Int32} {h : xm_H} {w : (Int32 ⊕ Nat × Nat) × xm_H}  (hS : xS ρ δ h) (hf : f_X10_request N ρ x1 x2 x3 h = some w) : xm_Rn xX 5 99 [.ref 160, .int x1, .int x2, .int x3] h (xti w.1) w.2 ∧ xS ρ δ w.2 := by
  refine xt_mk (φ := fun h => xS ρ δ h) (M := xM_X10_request) (ls := [some (.ref 160), some (.int x1), some (.int x2), some (.int x3)]) rfl (Nat.le_of_ble_eq_true rfl) rfl (fun Q hQ => ?_)
  unfold f_X10_request at hf
  refine xw_G (pc' := 1) (st' := [.ref 160]) rfl rfl trivial ?_
  refine xw_G (pc' := 2) (st' := [.int x2, .ref 160]) rfl rfl trivial ?_
  refine xe_e hf (fun v1 h2 e3 hf => ?_) (fun q23 h24 e3 hf => ?_)
  · refine xw_V (v := none) rfl rfl (xkf (xs_k hS rfl rfl : xm_k h 160 = (0, 0))) (Nat.le_of_ble_eq_true rfl) (Nat.le_of_ble_eq_true rfl) (xm_Rn_le (Nat.le_of_ble_eq_true rfl) (t_X10_requireTag  hS e3).1) ?_
    have hS := (t_X10_requireTag  hS e3).2
    show xm_W _ _ _ 5 _ [] _
    refine xw_G (pc' := 6) (st' := [.int x1]) rfl rfl trivial ?_
    refine xe_e hf (fun v4 h5 e6 hf => ?_) (fun q20 h21 e6 hf => ?_)
    · refine xw_S (v := none) rfl (Nat.le_of_ble_eq_true rfl) (Nat.le_of_ble_eq_true rfl) (xm_Rn_le (Nat.le_of_ble_eq_true rfl) (t_X10_requireUser  hS e6).1) ?_
      have hS := (t_X10_requireUser  hS e6).2
      show xm_W _ _ _ 9 _ [] _
      refine xw_G (pc' := 10) (st' := [.ref 160]) rfl rfl trivial ?_
      refine xw_G (pc' := 11) (st' := [.int x3, .ref 160]) rfl rfl trivial ?_
      refine xe_e hf (fun v7 h8 e9 hf => ?_) (fun q17 h18 e9 hf => ?_)
      · refine xw_V (v := none) rfl rfl (xkf (xs_k hS rfl rfl : xm_k h5 160 = (0, 0))) (Nat.le_of_ble_eq_true rfl) (Nat.le_of_ble_eq_true rfl) (xm_Rn_le (Nat.le_of_ble_eq_true rfl) (t_X10_requireSlots  hS e9).1) ?_
        have hS := (t_X10_requireSlots  hS e9).2
        show xm_W _ _ _ 14 _ [] _
        refine xw_G (pc' := 15) (st' := [.ref 160]) rfl rfl trivial ?_
        refine xw_gr rfl (xkf (xs_k hS rfl rfl : xm_k h8 160 = (0, 0))) (xs_r hS rfl) ?_
        refine xw_gr rfl (xkf (xs_k hS rfl rfl : xm_k h8 182 = (3, 0))) (xs_r hS rfl) ?_
        refine xw_G (pc' := 24) (st' := [.int (xm_i h8 201 2)]) rfl rfl (xkf (xs_k hS rfl rfl : xm_k h8 201 = (8, 0))) ?_
        refine xw_G (pc' := 25) (st' := [.int x3, .int (xm_i h8 201 2)]) rfl rfl trivial ?_
        refine xw_G (pc' := 26) (st' := [.int ((xm_i h8 201 2) + x3)]) rfl rfl trivial ?_
        refine xw_G (pc' := 29) (st' := [.int (160 : Int32), .int ((xm_i h8 201 2) + x3)]) rfl rfl trivial ?_
        refine xj_ic_le rfl hf (fun hc10 hf => ?_) (fun hc10 hf => ?_)
        · exact xr_t (inj := xti) rfl (Nat.le_of_ble_eq_true rfl) rfl hf hQ (xS_new hS rfl)
        · refine xw_G (pc' := 43) (st' := [.ref 160]) rfl rfl trivial ?_
          refine xw_gr rfl (xkf (xs_k hS rfl rfl : xm_k h8 160 = (0, 0))) (xs_r hS rfl) ?_
          refine xw_G (pc' := 47) (st' := [.ref 160, .ref 234]) rfl rfl trivial ?_
          refine xw_gr rfl (xkf (xs_k hS rfl rfl : xm_k h8 160 = (0, 0))) (xs_r hS rfl) ?_
          refine xw_gr rfl (xkf (xs_k hS rfl rfl : xm_k h8 182 = (3, 0))) (xs_r hS rfl) ?_
          refine xb_e hf (fun v11 h12 e13 hf => ?_)
          refine xw_V (v := none) rfl rfl (xkf (xs_k hS rfl rfl : xm_k h8 234 = (4, 0))) (Nat.le_of_ble_eq_true rfl) (Nat.le_of_ble_eq_true rfl) (xm_Rn_le (Nat.le_of_ble_eq_true rfl) (t_X3_remember  hS e13).1) ?_
          have hS := (t_X3_remember  hS e13).2
          show xm_W _ _ _ 56 _ [] _
          refine xw_G (pc' := 57) (st' := [.ref 160]) rfl rfl trivial ?_
          refine xw_gr rfl (xkf (xs_k hS rfl rfl : xm_k h12 160 = (0, 0))) (xs_r hS rfl) ?_
          refine xw_G (pc' := 61) (st' := [.int x1, .ref 182]) rfl rfl trivial ?_
          refine xw_G (pc' := 62) (st' := [.int x2, .int x1, .ref 182]) rfl rfl trivial ?_
          refine xw_G (pc' := 63) (st' := [.int x3, .int x2, .int x1, .ref 182]) rfl rfl trivial ?_
          refine xb_e hf (fun v14 h15 e16 hf => ?_)
          refine xw_V (v := some (.int v14)) rfl rfl (xkf (xs_k hS rfl rfl : xm_k h12 182 = (3, 0))) (Nat.le_of_ble_eq_true rfl) (Nat.le_of_ble_eq_true rfl) (xm_Rn_le (Nat.le_of_ble_eq_true rfl) (t_X2_serve  hS e16).1) ?_
          have hS := (t_X2_serve  hS e16).2
          show xm_W _ _ _ 66 _ [.int v14] _
          exact xr_i (inj := xti) rfl rfl rfl rfl hf hQ hS
      · refine xw_VX (x := q17) rfl rfl (xkf (xs_k hS rfl rfl : xm_k h5 160 = (0, 0))) (Nat.le_of_ble_eq_true rfl) (Nat.le_of_ble_eq_true rfl) (xm_Rn_le (Nat.le_of_ble_eq_true rfl) (t_X10_requireSlots  hS e9).1) rfl ?_
        have hS := (t_X10_requireSlots  hS e9).2
        exact xr_x (inj := xti) rfl hf hQ hS
    · refine xw_SX (x := q20) rfl (Nat.le_of_ble_eq_true rfl) (Nat.le_of_ble_eq_true rfl) (xm_Rn_le (Nat.le_of_ble_eq_true rfl) (t_X10_requireUser  hS e6).1) rfl ?_
      have hS := (t_X10_requireUser  hS e6).2
      exact xr_x (inj := xti) rfl hf hQ hS
  · refine xw_VX (x := q23) rfl rfl (xkf (xs_k hS rfl rfl : xm_k h 160 = (0, 0))) (Nat.le_of_ble_eq_true rfl) (Nat.le_of_ble_eq_true rfl) (xm_Rn_le (Nat.le_of_ble_eq_true rfl) (t_X10_requireTag  hS e3).1) rfl ?_
    have hS := (t_X10_requireTag  hS e3).2
    exact xr_x (inj := xti) rfl hf hQ hS
def f_L_request (N : Nat) (ρ : Nat) (x1 : Int32) (x2 : Int32) (x3 : Int32) (h : xm_H) : Option (Int32 × xm_H) := (xe (f_X10_request N ρ x1 x2 x3 h) (fun v1 h2 => (xl (xm_sl h2 316 0 (Int32.toInt64 v1)) fun h4 => (some ((0 : Int32), h4)))) (fun q6 h7 => (if (q6).1 = 14 then (some ((1 : Int32), h7)) else (if (q6).1 = 15 then (some ((2 : Int32), h7)) else (if (q6).1 = 16 then (some ((3 : Int32), h7)) else none)))))
theorem t_L_request {N : Nat} {ρ : Nat} {δ : Nat} {x1 : Int32} {x2 : Int32} {x3 : Int32} {h : xm_H} {w : Int32 × xm_H}  (hS : xS ρ δ h) (hf : f_L_request N ρ x1 x2 x3 h = some w) : xm_Rn xX 6 345 [.ref 160, .int x1, .int x2, .int x3, .ref 316] h (xji w.1) w.2 ∧ xS ρ δ w.2 := by
  refine xt_mk (φ := fun h => xS ρ δ h) (M := xM_L_request) (ls := [some (.ref 160), some (.int x1), some (.int x2), some (.int x3), some (.ref 316), none]) rfl (Nat.le_of_ble_eq_true rfl) rfl (fun Q hQ => ?_)
  unfold f_L_request at hf
  refine xw_G (pc' := 2) (st' := [.ref 316]) rfl rfl trivial ?_
  refine xw_G (pc' := 3) (st' := [.int (0 : Int32), .ref 316]) rfl rfl trivial ?_
  refine xw_G (pc' := 4) (st' := [.ref 160, .int (0 : Int32), .ref 316]) rfl rfl trivial ?_
  refine xw_G (pc' := 5) (st' := [.int x1, .ref 160, .int (0 : Int32), .ref 316]) rfl rfl trivial ?_
  refine xw_G (pc' := 6) (st' := [.int x2, .int x1, .ref 160, .int (0 : Int32), .ref 316]) rfl rfl trivial ?_
  refine xw_G (pc' := 7) (st' := [.int x3, .int x2, .int x1, .ref 160, .int (0 : Int32), .ref 316]) rfl rfl trivial ?_
  refine xe_e hf (fun v1 h2 e3 hf => ?_) (fun q6 h7 e3 hf => ?_)
  · refine xw_V (v := some (.int v1)) rfl rfl (xkf (xs_k hS rfl rfl : xm_k h 160 = (0, 0))) (Nat.le_of_ble_eq_true rfl) (Nat.le_of_ble_eq_true rfl) (xm_Rn_le (Nat.le_of_ble_eq_true rfl) (t_X10_request  hS e3).1) ?_
    have hS := (t_X10_request  hS e3).2
    show xm_W _ _ _ 10 _ [.int v1, .int (0 : Int32), .ref 316] _
    refine xw_G (pc' := 11) (st' := [.long (Int32.toInt64 v1), .int (0 : Int32), .ref 316]) rfl rfl trivial ?_
    refine xa_l rfl (xkf (xs_k hS rfl rfl : xm_k h2 316 = (104, 1))) (xkn (xs_k hS rfl rfl : xm_k h2 316 = (104, 1))) (by decide : xin (0 : Int32) 1) (Nat.le_of_ble_eq_true rfl) hf (fun h4 e5 hf => ?_)
    have hS := xS_sl hS e5
    refine xw_G (pc' := 27) (st' := []) rfl rfl trivial ?_
    refine xw_G (pc' := 28) (st' := [.int (0 : Int32)]) rfl rfl trivial ?_
    exact xr_i (inj := xji) rfl rfl rfl rfl hf hQ hS
  · by_cases hc8 : (q6).1 = 14
    · rw [if_pos hc8] at hf
      refine xw_VH (x := q6) (p := 15) rfl rfl (xkf (xs_k hS rfl rfl : xm_k h 160 = (0, 0))) (Nat.le_of_ble_eq_true rfl) (Nat.le_of_ble_eq_true rfl) (xm_Rn_le (Nat.le_of_ble_eq_true rfl) (t_X10_request  hS e3).1) (by rw [hc8]; rfl) ?_
      have hS := (t_X10_request  hS e3).2
      refine xw_G (pc' := 17) (ls' := [some (.ref 160), some (.int x1), some (.int x2), some (.int x3), some (.ref 316), some (.ref ((q6).2))]) (st' := []) rfl rfl (Nat.le_of_ble_eq_true rfl) ?_
      refine xw_G (pc' := 18) (st' := [.int (1 : Int32)]) rfl rfl trivial ?_
      exact xr_i (inj := xji) rfl rfl rfl rfl hf hQ hS
    · rw [if_neg hc8] at hf
      by_cases hc8 : (q6).1 = 15
      · rw [if_pos hc8] at hf
        refine xw_VH (x := q6) (p := 19) rfl rfl (xkf (xs_k hS rfl rfl : xm_k h 160 = (0, 0))) (Nat.le_of_ble_eq_true rfl) (Nat.le_of_ble_eq_true rfl) (xm_Rn_le (Nat.le_of_ble_eq_true rfl) (t_X10_request  hS e3).1) (by rw [hc8]; rfl) ?_
        have hS := (t_X10_request  hS e3).2
        refine xw_G (pc' := 21) (ls' := [some (.ref 160), some (.int x1), some (.int x2), some (.int x3), some (.ref 316), some (.ref ((q6).2))]) (st' := []) rfl rfl (Nat.le_of_ble_eq_true rfl) ?_
        refine xw_G (pc' := 22) (st' := [.int (2 : Int32)]) rfl rfl trivial ?_
        exact xr_i (inj := xji) rfl rfl rfl rfl hf hQ hS
      · rw [if_neg hc8] at hf
        by_cases hc8 : (q6).1 = 16
        · rw [if_pos hc8] at hf
          refine xw_VH (x := q6) (p := 23) rfl rfl (xkf (xs_k hS rfl rfl : xm_k h 160 = (0, 0))) (Nat.le_of_ble_eq_true rfl) (Nat.le_of_ble_eq_true rfl) (xm_Rn_le (Nat.le_of_ble_eq_true rfl) (t_X10_request  hS e3).1) (by rw [hc8]; rfl) ?_
          have hS := (t_X10_request  hS e3).2
          refine xw_G (pc' := 25) (ls' := [some (.ref 160), some (.int x1), some (.int x2), some (.int x3), some (.ref 316), some (.ref ((q6).2))]) (st' := []) rfl rfl (Nat.le_of_ble_eq_true rfl) ?_
          refine xw_G (pc' := 26) (st' := [.int (3 : Int32)]) rfl rfl trivial ?_
          exact xr_i (inj := xji) rfl rfl rfl rfl hf hQ hS
        · rw [if_neg hc8] at hf
          exact (xn_e hf).elim
def f_X11_good__ (x1 : Int32) (x2 : Int32) (x3 : Int32) (h : xm_H) : Option (Int32 × xm_H) := (if x1 = 0 then (xl (xm_si h 302 4 (1 : Int32)) fun h2 => (if (xm_i h2 302 4) = 0 then (some ((1 : Int32), h2)) else (some ((0 : Int32), h2)))) else (if x2 = 0 then (xl (xm_si h 302 4 (2 : Int32)) fun h6 => (if (xm_i h6 302 4) = 0 then (some ((1 : Int32), h6)) else (some ((0 : Int32), h6)))) else (if x3 = 0 then (xl (xm_si h 302 4 (3 : Int32)) fun h10 => (if (xm_i h10 302 4) = 0 then (some ((1 : Int32), h10)) else (some ((0 : Int32), h10)))) else (xl (xm_si h 302 4 (0 : Int32)) fun h13 => (if (xm_i h13 302 4) = 0 then (some ((1 : Int32), h13)) else (some ((0 : Int32), h13)))))))
theorem t_X11_good__ {ρ : Nat} {δ : Nat} {x1 : Int32} {x2 : Int32} {x3 : Int32} {h : xm_H} {w : Int32 × xm_H}  (hS : xS ρ δ h) (hf : f_X11_good__ x1 x2 x3 h = some w) : xm_Rn xX 1 136 [.ref 302, .int x1, .int x2, .int x3] h (xji w.1) w.2 ∧ xS ρ δ w.2 := by
  refine xt_mk (φ := fun h => xS ρ δ h) (M := xM_X11_good__) (ls := [some (.ref 302), some (.int x1), some (.int x2), some (.int x3)]) rfl (Nat.le_of_ble_eq_true rfl) rfl (fun Q hQ => ?_)
  unfold f_X11_good__ at hf
  refine xw_G (pc' := 1) (st' := [.ref 302]) rfl rfl trivial ?_
  refine xw_G (pc' := 2) (st' := [.int x1, .ref 302]) rfl rfl trivial ?_
  refine xj_if_ne rfl hf (fun hc1 hf => ?_) (fun hc1 hf => ?_)
  · refine xw_G (pc' := 6) (st' := [.int (1 : Int32), .ref 302]) rfl rfl trivial ?_
    refine xw_G (pc' := 26) (st' := [.int (1 : Int32), .ref 302]) rfl rfl trivial ?_
    refine xp_i rfl (xkf (xs_k hS rfl rfl : xm_k h 302 = (11, 0))) (Nat.le_of_ble_eq_true rfl) hf (fun h2 e3 hf => ?_)
    have hS := xS_si hS e3
    refine xw_G (pc' := 30) (st' := [.ref 302]) rfl rfl trivial ?_
    refine xw_G (pc' := 33) (st' := [.int (xm_i h2 302 4)]) rfl rfl (xkf (xs_k hS rfl rfl : xm_k h2 302 = (11, 0))) ?_
    refine xj_if_ne rfl hf (fun hc4 hf => ?_) (fun hc4 hf => ?_)
    · refine xw_G (pc' := 37) (st' := [.int (1 : Int32)]) rfl rfl trivial ?_
      refine xw_G (pc' := 41) (st' := [.int (1 : Int32)]) rfl rfl trivial ?_
      exact xr_i (inj := xji) rfl rfl rfl rfl hf hQ hS
    · refine xw_G (pc' := 41) (st' := [.int (0 : Int32)]) rfl rfl trivial ?_
      exact xr_i (inj := xji) rfl rfl rfl rfl hf hQ hS
  · refine xw_G (pc' := 10) (st' := [.int x2, .ref 302]) rfl rfl trivial ?_
    refine xj_if_ne rfl hf (fun hc5 hf => ?_) (fun hc5 hf => ?_)
    · refine xw_G (pc' := 14) (st' := [.int (2 : Int32), .ref 302]) rfl rfl trivial ?_
      refine xw_G (pc' := 26) (st' := [.int (2 : Int32), .ref 302]) rfl rfl trivial ?_
      refine xp_i rfl (xkf (xs_k hS rfl rfl : xm_k h 302 = (11, 0))) (Nat.le_of_ble_eq_true rfl) hf (fun h6 e7 hf => ?_)
      have hS := xS_si hS e7
      refine xw_G (pc' := 30) (st' := [.ref 302]) rfl rfl trivial ?_
      refine xw_G (pc' := 33) (st' := [.int (xm_i h6 302 4)]) rfl rfl (xkf (xs_k hS rfl rfl : xm_k h6 302 = (11, 0))) ?_
      refine xj_if_ne rfl hf (fun hc8 hf => ?_) (fun hc8 hf => ?_)
      · refine xw_G (pc' := 37) (st' := [.int (1 : Int32)]) rfl rfl trivial ?_
        refine xw_G (pc' := 41) (st' := [.int (1 : Int32)]) rfl rfl trivial ?_
        exact xr_i (inj := xji) rfl rfl rfl rfl hf hQ hS
      · refine xw_G (pc' := 41) (st' := [.int (0 : Int32)]) rfl rfl trivial ?_
        exact xr_i (inj := xji) rfl rfl rfl rfl hf hQ hS
    · refine xw_G (pc' := 18) (st' := [.int x3, .ref 302]) rfl rfl trivial ?_
      refine xj_if_ne rfl hf (fun hc9 hf => ?_) (fun hc9 hf => ?_)
      · refine xw_G (pc' := 22) (st' := [.int (3 : Int32), .ref 302]) rfl rfl trivial ?_
        refine xw_G (pc' := 26) (st' := [.int (3 : Int32), .ref 302]) rfl rfl trivial ?_
        refine xp_i rfl (xkf (xs_k hS rfl rfl : xm_k h 302 = (11, 0))) (Nat.le_of_ble_eq_true rfl) hf (fun h10 e11 hf => ?_)
        have hS := xS_si hS e11
        refine xw_G (pc' := 30) (st' := [.ref 302]) rfl rfl trivial ?_
        refine xw_G (pc' := 33) (st' := [.int (xm_i h10 302 4)]) rfl rfl (xkf (xs_k hS rfl rfl : xm_k h10 302 = (11, 0))) ?_
        refine xj_if_ne rfl hf (fun hc12 hf => ?_) (fun hc12 hf => ?_)
        · refine xw_G (pc' := 37) (st' := [.int (1 : Int32)]) rfl rfl trivial ?_
          refine xw_G (pc' := 41) (st' := [.int (1 : Int32)]) rfl rfl trivial ?_
          exact xr_i (inj := xji) rfl rfl rfl rfl hf hQ hS
        · refine xw_G (pc' := 41) (st' := [.int (0 : Int32)]) rfl rfl trivial ?_
          exact xr_i (inj := xji) rfl rfl rfl rfl hf hQ hS
      · refine xw_G (pc' := 26) (st' := [.int (0 : Int32), .ref 302]) rfl rfl trivial ?_
        refine xp_i rfl (xkf (xs_k hS rfl rfl : xm_k h 302 = (11, 0))) (Nat.le_of_ble_eq_true rfl) hf (fun h13 e14 hf => ?_)
        have hS := xS_si hS e14
        refine xw_G (pc' := 30) (st' := [.ref 302]) rfl rfl trivial ?_
        refine xw_G (pc' := 33) (st' := [.int (xm_i h13 302 4)]) rfl rfl (xkf (xs_k hS rfl rfl : xm_k h13 302 = (11, 0))) ?_
        refine xj_if_ne rfl hf (fun hc15 hf => ?_) (fun hc15 hf => ?_)
        · refine xw_G (pc' := 37) (st' := [.int (1 : Int32)]) rfl rfl trivial ?_
          refine xw_G (pc' := 41) (st' := [.int (1 : Int32)]) rfl rfl trivial ?_
          exact xr_i (inj := xji) rfl rfl rfl rfl hf hQ hS
        · refine xw_G (pc' := 41) (st' := [.int (0 : Int32)]) rfl rfl trivial ?_
          exact xr_i (inj := xji) rfl rfl rfl rfl hf hQ hS
def f_X11_remember_13B (N : Nat) (k42 : xm_H → Option (Unit × xm_H)) (rec : Int32 → xm_H → Option (Unit × xm_H)) (c1 : Int32) (h : xm_H) : Option (Unit × xm_H) := (if c1 < (17736 : Int32) then (if xin c1 17736 then (if xin (c1 - (2217 : Int32)) 17736 then (xl (xm_si h 305 (Int32.toNatClampNeg (c1 - (2217 : Int32))) (xm_i h 305 (Int32.toNatClampNeg c1))) fun h4 => (rec (c1 + (1 : Int32)) h4)) else none) else none) else (k42  h))
def f_X11_remember_13 (N : Nat) (k42 : xm_H → Option (Unit × xm_H)) : Nat → Int32 → xm_H → Option (Unit × xm_H)
  | 0 => fun _ _ => none
  | n + 1 => fun c1 h => f_X11_remember_13B N k42 (f_X11_remember_13 N k42 n) c1 h
def f_X11_remember_54B (N : Nat) (k88 : xm_H → Option (Unit × xm_H)) (rec : Int32 → xm_H → Option (Unit × xm_H)) (c1 : Int32) (h : xm_H) : Option (Unit × xm_H) := (if c1 < (2217 : Int32) then (if xin c1 2217 then (if xin (((2217 : Int32) * (xm_i h 302 3)) + c1) 17736 then (xl (xm_si h 305 (Int32.toNatClampNeg (((2217 : Int32) * (xm_i h 302 3)) + c1)) (xm_i h 303 (Int32.toNatClampNeg c1))) fun h4 => (rec (c1 + (1 : Int32)) h4)) else none) else none) else (k88  h))
def f_X11_remember_54 (N : Nat) (k88 : xm_H → Option (Unit × xm_H)) : Nat → Int32 → xm_H → Option (Unit × xm_H)
  | 0 => fun _ _ => none
  | n + 1 => fun c1 h => f_X11_remember_54B N k88 (f_X11_remember_54 N k88 n) c1 h
def f_X11_remember (N : Nat) (h : xm_H) : Option (Unit × xm_H) := (if (xm_i h 302 3) = (8 : Int32) then (f_X11_remember_13 N (fun  (h2 : xm_H) => (xl (xm_si h2 302 3 ((xm_i h2 302 3) - (1 : Int32))) fun h3 => (f_X11_remember_54 N (fun  (h5 : xm_H) => (xl (xm_si h5 302 3 ((xm_i h5 302 3) + (1 : Int32))) fun h6 => (some ((), h6)))) N (0 : Int32) h3))) N (2217 : Int32) h) else (f_X11_remember_54 N (fun  (h8 : xm_H) => (xl (xm_si h8 302 3 ((xm_i h8 302 3) + (1 : Int32))) fun h9 => (some ((), h9)))) N (0 : Int32) h))
theorem tl_X11_remember_13 {ρ : Nat} {δ : Nat} {N : Nat} {k42 : xm_H → Option (Unit × xm_H)} {Q : xm_O → xm_H → Prop} {w : Unit × xm_H}  (hQ : xS ρ δ w.2 → Q (xjv w.1) w.2) (hk42 : ∀  (h : xm_H), xS ρ δ h → k42  h = some w → xm_W (xm_Rn xX 0) xM_X11_remember Q 42 [some (.ref 302), none] [] h) : ∀ (n : Nat) (c1 : Int32) (h : xm_H), xS ρ δ h → f_X11_remember_13 N k42 n c1 h = some w → xm_W (xm_Rn xX 0) xM_X11_remember Q 13 [some (.ref 302), some (.int c1)] [] h := by
  intro n
  induction n with
  | zero =>
    intro c1 h hS hf
    exact (xn_e hf).elim
  | succ n ih =>
    intro c1 h hS hf
    replace hf : f_X11_remember_13B N k42 (f_X11_remember_13 N k42 n) c1 h = some w := hf
    unfold f_X11_remember_13B at hf
    refine xw_K (pc' := 14) (ls' := [some (.ref 302), some (.int c1)]) (st' := [.int c1]) rfl rfl trivial ?_
    refine xw_G (pc' := 17) (st' := [.int (17736 : Int32), .int c1]) rfl rfl trivial ?_
    refine xj_ic_ge rfl hf (fun hc1 hf => ?_) (fun hc1 hf => ?_)
    · refine xw_G (pc' := 21) (st' := [.ref 302]) rfl rfl trivial ?_
      refine xw_gr rfl (xkf (xs_k hS rfl rfl : xm_k h 302 = (11, 0))) (xs_r hS rfl) ?_
      refine xw_G (pc' := 25) (st' := [.int c1, .ref 305]) rfl rfl trivial ?_
      refine xw_G (pc' := 28) (st' := [.int (2217 : Int32), .int c1, .ref 305]) rfl rfl trivial ?_
      refine xw_G (pc' := 29) (st' := [.int (c1 - (2217 : Int32)), .ref 305]) rfl rfl trivial ?_
      refine xw_G (pc' := 30) (st' := [.ref 302, .int (c1 - (2217 : Int32)), .ref 305]) rfl rfl trivial ?_
      refine xw_gr rfl (xkf (xs_k hS rfl rfl : xm_k h 302 = (11, 0))) (xs_r hS rfl) ?_
      refine xw_G (pc' := 34) (st' := [.int c1, .ref 305, .int (c1 - (2217 : Int32)), .ref 305]) rfl rfl trivial ?_
      refine xg_e hf (fun hg2 hf => ?_)
      refine xa_ld (t := 100) (τ := 0) (v := .int (xm_i h 305 (Int32.toNatClampNeg c1))) rfl rfl (xkf (xs_k hS rfl rfl : xm_k h 305 = (100, 17736))) (xkn (xs_k hS rfl rfl : xm_k h 305 = (100, 17736))) hg2 rfl ?_
      refine xg_e hf (fun hg3 hf => ?_)
      refine xa_i rfl (xkf (xs_k hS rfl rfl : xm_k h 305 = (100, 17736))) (xkn (xs_k hS rfl rfl : xm_k h 305 = (100, 17736))) hg3 (Nat.le_of_ble_eq_true rfl) hf (fun h4 e5 hf => ?_)
      have hS := xS_si hS e5
      refine xw_G (pc' := 39) (ls' := [some (.ref 302), some (.int (c1 + (1 : Int32)))]) (st' := []) rfl rfl (Nat.le_of_ble_eq_true rfl) ?_
      refine xw_G (pc' := 13) (st' := []) rfl rfl trivial ?_
      refine xw_M rfl rfl ?_
      exact ih _ _ hS hf
    · refine xw_M rfl rfl ?_
      exact hk42  _ hS hf
theorem tl_X11_remember_54 {ρ : Nat} {δ : Nat} {N : Nat} {k88 : xm_H → Option (Unit × xm_H)} {Q : xm_O → xm_H → Prop} {w : Unit × xm_H}  (hQ : xS ρ δ w.2 → Q (xjv w.1) w.2) (hk88 : ∀  (h : xm_H), xS ρ δ h → k88  h = some w → xm_W (xm_Rn xX 0) xM_X11_remember Q 88 [some (.ref 302), none] [] h) : ∀ (n : Nat) (c1 : Int32) (h : xm_H), xS ρ δ h → f_X11_remember_54 N k88 n c1 h = some w → xm_W (xm_Rn xX 0) xM_X11_remember Q 54 [some (.ref 302), some (.int c1)] [] h := by
  intro n
  induction n with
  | zero =>
    intro c1 h hS hf
    exact (xn_e hf).elim
  | succ n ih =>
    intro c1 h hS hf
    replace hf : f_X11_remember_54B N k88 (f_X11_remember_54 N k88 n) c1 h = some w := hf
    unfold f_X11_remember_54B at hf
    refine xw_K (pc' := 55) (ls' := [some (.ref 302), some (.int c1)]) (st' := [.int c1]) rfl rfl trivial ?_
    refine xw_G (pc' := 58) (st' := [.int (2217 : Int32), .int c1]) rfl rfl trivial ?_
    refine xj_ic_ge rfl hf (fun hc1 hf => ?_) (fun hc1 hf => ?_)
    · refine xw_G (pc' := 62) (st' := [.ref 302]) rfl rfl trivial ?_
      refine xw_gr rfl (xkf (xs_k hS rfl rfl : xm_k h 302 = (11, 0))) (xs_r hS rfl) ?_
      refine xw_G (pc' := 68) (st' := [.int (2217 : Int32), .ref 305]) rfl rfl trivial ?_
      refine xw_G (pc' := 69) (st' := [.ref 302, .int (2217 : Int32), .ref 305]) rfl rfl trivial ?_
      refine xw_G (pc' := 72) (st' := [.int (xm_i h 302 3), .int (2217 : Int32), .ref 305]) rfl rfl (xkf (xs_k hS rfl rfl : xm_k h 302 = (11, 0))) ?_
      refine xw_G (pc' := 73) (st' := [.int ((2217 : Int32) * (xm_i h 302 3)), .ref 305]) rfl rfl trivial ?_
      refine xw_G (pc' := 74) (st' := [.int c1, .int ((2217 : Int32) * (xm_i h 302 3)), .ref 305]) rfl rfl trivial ?_
      refine xw_G (pc' := 75) (st' := [.int (((2217 : Int32) * (xm_i h 302 3)) + c1), .ref 305]) rfl rfl trivial ?_
      refine xw_G (pc' := 76) (st' := [.ref 302, .int (((2217 : Int32) * (xm_i h 302 3)) + c1), .ref 305]) rfl rfl trivial ?_
      refine xw_gr rfl (xkf (xs_k hS rfl rfl : xm_k h 302 = (11, 0))) (xs_r hS rfl) ?_
      refine xw_G (pc' := 80) (st' := [.int c1, .ref 303, .int (((2217 : Int32) * (xm_i h 302 3)) + c1), .ref 305]) rfl rfl trivial ?_
      refine xg_e hf (fun hg2 hf => ?_)
      refine xa_ld (t := 100) (τ := 0) (v := .int (xm_i h 303 (Int32.toNatClampNeg c1))) rfl rfl (xkf (xs_k hS rfl rfl : xm_k h 303 = (100, 2217))) (xkn (xs_k hS rfl rfl : xm_k h 303 = (100, 2217))) hg2 rfl ?_
      refine xg_e hf (fun hg3 hf => ?_)
      refine xa_i rfl (xkf (xs_k hS rfl rfl : xm_k h 305 = (100, 17736))) (xkn (xs_k hS rfl rfl : xm_k h 305 = (100, 17736))) hg3 (Nat.le_of_ble_eq_true rfl) hf (fun h4 e5 hf => ?_)
      have hS := xS_si hS e5
      refine xw_G (pc' := 85) (ls' := [some (.ref 302), some (.int (c1 + (1 : Int32)))]) (st' := []) rfl rfl (Nat.le_of_ble_eq_true rfl) ?_
      refine xw_G (pc' := 54) (st' := []) rfl rfl trivial ?_
      refine xw_M rfl rfl ?_
      exact ih _ _ hS hf
    · refine xw_M rfl rfl ?_
      exact hk88  _ hS hf
theorem t_X11_remember {N : Nat} {ρ : Nat} {δ : Nat} {h : xm_H} {w : Unit × xm_H}  (hS : xS ρ δ h) (hf : f_X11_remember N h = some w) : xm_Rn xX 1 138 [.ref 302] h (xjv w.1) w.2 ∧ xS ρ δ w.2 := by
  refine xt_mk (φ := fun h => xS ρ δ h) (M := xM_X11_remember) (ls := [some (.ref 302), none]) rfl (Nat.le_of_ble_eq_true rfl) rfl (fun Q hQ => ?_)
  unfold f_X11_remember at hf
  refine xw_G (pc' := 1) (st' := [.ref 302]) rfl rfl trivial ?_
  refine xw_G (pc' := 4) (st' := [.int (xm_i h 302 3)]) rfl rfl (xkf (xs_k hS rfl rfl : xm_k h 302 = (11, 0))) ?_
  refine xw_G (pc' := 6) (st' := [.int (8 : Int32), .int (xm_i h 302 3)]) rfl rfl trivial ?_
  refine xj_ic_ne rfl hf (fun hc1 hf => ?_) (fun hc1 hf => ?_)
  · refine xw_G (pc' := 12) (st' := [.int (2217 : Int32)]) rfl rfl trivial ?_
    refine xw_G (pc' := 13) (ls' := [some (.ref 302), some (.int (2217 : Int32))]) (st' := []) rfl rfl (Nat.le_of_ble_eq_true rfl) ?_
    refine xw_M rfl rfl ?_
    refine tl_X11_remember_13  hQ (fun  h2 hS hf => ?_) _ _ _ hS hf
    refine xw_K (pc' := 43) (ls' := [some (.ref 302), none]) (st' := [.ref 302]) rfl rfl trivial ?_
    refine xw_G (pc' := 44) (st' := [.ref 302, .ref 302]) rfl rfl rfl ?_
    refine xw_G (pc' := 47) (st' := [.int (xm_i h2 302 3), .ref 302]) rfl rfl (xkf (xs_k hS rfl rfl : xm_k h2 302 = (11, 0))) ?_
    refine xw_G (pc' := 48) (st' := [.int (1 : Int32), .int (xm_i h2 302 3), .ref 302]) rfl rfl trivial ?_
    refine xw_G (pc' := 49) (st' := [.int ((xm_i h2 302 3) - (1 : Int32)), .ref 302]) rfl rfl trivial ?_
    refine xp_i rfl (xkf (xs_k hS rfl rfl : xm_k h2 302 = (11, 0))) (Nat.le_of_ble_eq_true rfl) hf (fun h3 e4 hf => ?_)
    have hS := xS_si hS e4
    refine xw_G (pc' := 53) (st' := [.int (0 : Int32)]) rfl rfl trivial ?_
    refine xw_G (pc' := 54) (ls' := [some (.ref 302), some (.int (0 : Int32))]) (st' := []) rfl rfl (Nat.le_of_ble_eq_true rfl) ?_
    refine xw_M rfl rfl ?_
    refine tl_X11_remember_54  hQ (fun  h5 hS hf => ?_) _ _ _ hS hf
    refine xw_K (pc' := 89) (ls' := [some (.ref 302), none]) (st' := [.ref 302]) rfl rfl trivial ?_
    refine xw_G (pc' := 90) (st' := [.ref 302, .ref 302]) rfl rfl rfl ?_
    refine xw_G (pc' := 93) (st' := [.int (xm_i h5 302 3), .ref 302]) rfl rfl (xkf (xs_k hS rfl rfl : xm_k h5 302 = (11, 0))) ?_
    refine xw_G (pc' := 94) (st' := [.int (1 : Int32), .int (xm_i h5 302 3), .ref 302]) rfl rfl trivial ?_
    refine xw_G (pc' := 95) (st' := [.int ((xm_i h5 302 3) + (1 : Int32)), .ref 302]) rfl rfl trivial ?_
    refine xp_i rfl (xkf (xs_k hS rfl rfl : xm_k h5 302 = (11, 0))) (Nat.le_of_ble_eq_true rfl) hf (fun h6 e7 hf => ?_)
    have hS := xS_si hS e7
    exact xr_v (inj := xjv) rfl rfl hf hQ hS
  · refine xw_G (pc' := 53) (st' := [.int (0 : Int32)]) rfl rfl trivial ?_
    refine xw_G (pc' := 54) (ls' := [some (.ref 302), some (.int (0 : Int32))]) (st' := []) rfl rfl (Nat.le_of_ble_eq_true rfl) ?_
    refine xw_M rfl rfl ?_
    refine tl_X11_remember_54  hQ (fun  h8 hS hf => ?_) _ _ _ hS hf
    refine xw_K (pc' := 89) (ls' := [some (.ref 302), none]) (st' := [.ref 302]) rfl rfl trivial ?_
    refine xw_G (pc' := 90) (st' := [.ref 302, .ref 302]) rfl rfl rfl ?_
    refine xw_G (pc' := 93) (st' := [.int (xm_i h8 302 3), .ref 302]) rfl rfl (xkf (xs_k hS rfl rfl : xm_k h8 302 = (11, 0))) ?_
    refine xw_G (pc' := 94) (st' := [.int (1 : Int32), .int (xm_i h8 302 3), .ref 302]) rfl rfl trivial ?_
    refine xw_G (pc' := 95) (st' := [.int ((xm_i h8 302 3) + (1 : Int32)), .ref 302]) rfl rfl trivial ?_
    refine xp_i rfl (xkf (xs_k hS rfl rfl : xm_k h8 302 = (11, 0))) (Nat.le_of_ble_eq_true rfl) hf (fun h9 e10 hf => ?_)
    have hS := xS_si hS e10
    exact xr_v (inj := xjv) rfl rfl hf hQ hS
def f_X11_request (N : Nat) (x1 : Int32) (x2 : Int32) (x3 : Int32) (h : xm_H) : Option (Int32 × xm_H) := (xb (f_X11_isTag x2 h) fun v1 h2 => (xb (f_X11_isRequest x1 x3 h2) fun v4 h5 => (if 0 < (lg_cmp ((Int32.toInt64 (xm_i h5 303 1)) + (Int32.toInt64 x3)) (160 : Int64)) then (xb (f_X11_good__ v1 v4 (0 : Int32) h5) fun v8 h9 => (if v8 = 0 then (some ((0 : Int32), h9)) else (xb (f_X11_remember N h9) fun v12 h13 => (xb (f_X11_auction N x1 x2 x3 h13) fun v15 h16 => (xb (f_X11_takeOver N x1 h16) fun v18 h19 => (some (xm_i h19 302 28, h19))))))) else (xb (f_X11_good__ v1 v4 (1 : Int32) h5) fun v21 h22 => (if v21 = 0 then (some ((0 : Int32), h22)) else (xb (f_X11_remember N h22) fun v25 h26 => (xb (f_X11_auction N x1 x2 x3 h26) fun v28 h29 => (xb (f_X11_takeOver N x1 h29) fun v31 h32 => (some (xm_i h32 302 28, h32))))))))))
theorem t_X11_request {N : Nat} {ρ : Nat} {δ : Nat} {x1 : Int32} {x2 : Int32} {x3 : Int32} {h : xm_H} {w : Int32 × xm_H}  (hS : xS ρ δ h) (hf : f_X11_request N x1 x2 x3 h = some w) : xm_Rn xX 5 214 [.ref 302, .int x1, .int x2, .int x3] h (xji w.1) w.2 ∧ xS ρ δ w.2 := by
  refine xt_mk (φ := fun h => xS ρ δ h) (M := xM_X11_request) (ls := [some (.ref 302), some (.int x1), some (.int x2), some (.int x3), none]) rfl (Nat.le_of_ble_eq_true rfl) rfl (fun Q hQ => ?_)
  unfold f_X11_request at hf
  refine xw_G (pc' := 1) (st' := [.ref 302]) rfl rfl trivial ?_
  refine xw_G (pc' := 2) (st' := [.ref 302, .ref 302]) rfl rfl trivial ?_
  refine xw_G (pc' := 3) (st' := [.int x2, .ref 302, .ref 302]) rfl rfl trivial ?_
  refine xb_e hf (fun v1 h2 e3 hf => ?_)
  refine xw_V (v := some (.int v1)) rfl rfl (xkf (xs_k hS rfl rfl : xm_k h 302 = (11, 0))) (Nat.le_of_ble_eq_true rfl) (Nat.le_of_ble_eq_true rfl) (xm_Rn_le (Nat.le_of_ble_eq_true rfl) (t_X11_isTag  hS e3).1) ?_
  have hS := (t_X11_isTag  hS e3).2
  show xm_W _ _ _ 6 _ [.int v1, .ref 302] _
  refine xw_G (pc' := 7) (st' := [.ref 302, .int v1, .ref 302]) rfl rfl trivial ?_
  refine xw_G (pc' := 8) (st' := [.int x1, .ref 302, .int v1, .ref 302]) rfl rfl trivial ?_
  refine xw_G (pc' := 9) (st' := [.int x3, .int x1, .ref 302, .int v1, .ref 302]) rfl rfl trivial ?_
  refine xb_e hf (fun v4 h5 e6 hf => ?_)
  refine xw_V (v := some (.int v4)) rfl rfl (xkf (xs_k hS rfl rfl : xm_k h2 302 = (11, 0))) (Nat.le_of_ble_eq_true rfl) (Nat.le_of_ble_eq_true rfl) (xm_Rn_le (Nat.le_of_ble_eq_true rfl) (t_X11_isRequest  hS e6).1) ?_
  have hS := (t_X11_isRequest  hS e6).2
  show xm_W _ _ _ 12 _ [.int v4, .int v1, .ref 302] _
  refine xw_G (pc' := 13) (st' := [.ref 302, .int v4, .int v1, .ref 302]) rfl rfl trivial ?_
  refine xw_gr rfl (xkf (xs_k hS rfl rfl : xm_k h5 302 = (11, 0))) (xs_r hS rfl) ?_
  refine xw_G (pc' := 17) (st' := [.int (1 : Int32), .ref 303, .int v4, .int v1, .ref 302]) rfl rfl trivial ?_
  refine xa_ld (t := 100) (τ := 0) (v := .int (xm_i h5 303 1)) rfl rfl (xkf (xs_k hS rfl rfl : xm_k h5 303 = (100, 2217))) (xkn (xs_k hS rfl rfl : xm_k h5 303 = (100, 2217))) (by decide : xin (1 : Int32) 2217) rfl ?_
  refine xw_G (pc' := 19) (st' := [.long (Int32.toInt64 (xm_i h5 303 1)), .int v4, .int v1, .ref 302]) rfl rfl trivial ?_
  refine xw_G (pc' := 20) (st' := [.int x3, .long (Int32.toInt64 (xm_i h5 303 1)), .int v4, .int v1, .ref 302]) rfl rfl trivial ?_
  refine xw_G (pc' := 21) (st' := [.long (Int32.toInt64 x3), .long (Int32.toInt64 (xm_i h5 303 1)), .int v4, .int v1, .ref 302]) rfl rfl trivial ?_
  refine xw_G (pc' := 22) (st' := [.long ((Int32.toInt64 (xm_i h5 303 1)) + (Int32.toInt64 x3)), .int v4, .int v1, .ref 302]) rfl rfl trivial ?_
  refine xw_G (pc' := 25) (st' := [.long (160 : Int64), .long ((Int32.toInt64 (xm_i h5 303 1)) + (Int32.toInt64 x3)), .int v4, .int v1, .ref 302]) rfl rfl trivial ?_
  refine xw_G (pc' := 26) (st' := [.int (lg_cmp ((Int32.toInt64 (xm_i h5 303 1)) + (Int32.toInt64 x3)) (160 : Int64)), .int v4, .int v1, .ref 302]) rfl rfl trivial ?_
  refine xj_if_gt rfl hf (fun hc7 hf => ?_) (fun hc7 hf => ?_)
  · refine xw_G (pc' := 34) (st' := [.int (0 : Int32), .int v4, .int v1, .ref 302]) rfl rfl trivial ?_
    refine xb_e hf (fun v8 h9 e10 hf => ?_)
    refine xw_V (v := some (.int v8)) rfl rfl (xkf (xs_k hS rfl rfl : xm_k h5 302 = (11, 0))) (Nat.le_of_ble_eq_true rfl) (Nat.le_of_ble_eq_true rfl) (xm_Rn_le (Nat.le_of_ble_eq_true rfl) (t_X11_good__  hS e10).1) ?_
    have hS := (t_X11_good__  hS e10).2
    show xm_W _ _ _ 37 _ [.int v8] _
    refine xj_if_ne rfl hf (fun hc11 hf => ?_) (fun hc11 hf => ?_)
    · refine xw_G (pc' := 41) (st' := [.int (0 : Int32)]) rfl rfl trivial ?_
      exact xr_i (inj := xji) rfl rfl rfl rfl hf hQ hS
    · refine xw_G (pc' := 43) (st' := [.ref 302]) rfl rfl trivial ?_
      refine xb_e hf (fun v12 h13 e14 hf => ?_)
      refine xw_V (v := none) rfl rfl (xkf (xs_k hS rfl rfl : xm_k h9 302 = (11, 0))) (Nat.le_of_ble_eq_true rfl) (Nat.le_of_ble_eq_true rfl) (xm_Rn_le (Nat.le_of_ble_eq_true rfl) (t_X11_remember  hS e14).1) ?_
      have hS := (t_X11_remember  hS e14).2
      show xm_W _ _ _ 46 _ [] _
      refine xw_G (pc' := 47) (st' := [.ref 302]) rfl rfl trivial ?_
      refine xw_G (pc' := 48) (st' := [.int x1, .ref 302]) rfl rfl trivial ?_
      refine xw_G (pc' := 49) (st' := [.int x2, .int x1, .ref 302]) rfl rfl trivial ?_
      refine xw_G (pc' := 50) (st' := [.int x3, .int x2, .int x1, .ref 302]) rfl rfl trivial ?_
      refine xb_e hf (fun v15 h16 e17 hf => ?_)
      refine xw_V (v := none) rfl rfl (xkf (xs_k hS rfl rfl : xm_k h13 302 = (11, 0))) (Nat.le_of_ble_eq_true rfl) (Nat.le_of_ble_eq_true rfl) (xm_Rn_le (Nat.le_of_ble_eq_true rfl) (t_X11_auction  hS e17).1) ?_
      have hS := (t_X11_auction  hS e17).2
      show xm_W _ _ _ 53 _ [] _
      refine xw_G (pc' := 54) (st' := [.ref 302]) rfl rfl trivial ?_
      refine xw_G (pc' := 55) (st' := [.int x1, .ref 302]) rfl rfl trivial ?_
      refine xb_e hf (fun v18 h19 e20 hf => ?_)
      refine xw_V (v := some (.int v18)) rfl rfl (xkf (xs_k hS rfl rfl : xm_k h16 302 = (11, 0))) (Nat.le_of_ble_eq_true rfl) (Nat.le_of_ble_eq_true rfl) (xm_Rn_le (Nat.le_of_ble_eq_true rfl) (t_X11_takeOver  hS e20).1) ?_
      have hS := (t_X11_takeOver  hS e20).2
      show xm_W _ _ _ 58 _ [.int v18] _
      refine xw_G (pc' := 60) (ls' := [some (.ref 302), some (.int x1), some (.int x2), some (.int x3), some (.int v18)]) (st' := []) rfl rfl (Nat.le_of_ble_eq_true rfl) ?_
      refine xw_G (pc' := 61) (st' := [.ref 302]) rfl rfl trivial ?_
      refine xw_G (pc' := 64) (st' := [.int (xm_i h19 302 28)]) rfl rfl (xkf (xs_k hS rfl rfl : xm_k h19 302 = (11, 0))) ?_
      exact xr_i (inj := xji) rfl rfl rfl rfl hf hQ hS
  · refine xw_G (pc' := 30) (st' := [.int (1 : Int32), .int v4, .int v1, .ref 302]) rfl rfl trivial ?_
    refine xw_G (pc' := 34) (st' := [.int (1 : Int32), .int v4, .int v1, .ref 302]) rfl rfl trivial ?_
    refine xb_e hf (fun v21 h22 e23 hf => ?_)
    refine xw_V (v := some (.int v21)) rfl rfl (xkf (xs_k hS rfl rfl : xm_k h5 302 = (11, 0))) (Nat.le_of_ble_eq_true rfl) (Nat.le_of_ble_eq_true rfl) (xm_Rn_le (Nat.le_of_ble_eq_true rfl) (t_X11_good__  hS e23).1) ?_
    have hS := (t_X11_good__  hS e23).2
    show xm_W _ _ _ 37 _ [.int v21] _
    refine xj_if_ne rfl hf (fun hc24 hf => ?_) (fun hc24 hf => ?_)
    · refine xw_G (pc' := 41) (st' := [.int (0 : Int32)]) rfl rfl trivial ?_
      exact xr_i (inj := xji) rfl rfl rfl rfl hf hQ hS
    · refine xw_G (pc' := 43) (st' := [.ref 302]) rfl rfl trivial ?_
      refine xb_e hf (fun v25 h26 e27 hf => ?_)
      refine xw_V (v := none) rfl rfl (xkf (xs_k hS rfl rfl : xm_k h22 302 = (11, 0))) (Nat.le_of_ble_eq_true rfl) (Nat.le_of_ble_eq_true rfl) (xm_Rn_le (Nat.le_of_ble_eq_true rfl) (t_X11_remember  hS e27).1) ?_
      have hS := (t_X11_remember  hS e27).2
      show xm_W _ _ _ 46 _ [] _
      refine xw_G (pc' := 47) (st' := [.ref 302]) rfl rfl trivial ?_
      refine xw_G (pc' := 48) (st' := [.int x1, .ref 302]) rfl rfl trivial ?_
      refine xw_G (pc' := 49) (st' := [.int x2, .int x1, .ref 302]) rfl rfl trivial ?_
      refine xw_G (pc' := 50) (st' := [.int x3, .int x2, .int x1, .ref 302]) rfl rfl trivial ?_
      refine xb_e hf (fun v28 h29 e30 hf => ?_)
      refine xw_V (v := none) rfl rfl (xkf (xs_k hS rfl rfl : xm_k h26 302 = (11, 0))) (Nat.le_of_ble_eq_true rfl) (Nat.le_of_ble_eq_true rfl) (xm_Rn_le (Nat.le_of_ble_eq_true rfl) (t_X11_auction  hS e30).1) ?_
      have hS := (t_X11_auction  hS e30).2
      show xm_W _ _ _ 53 _ [] _
      refine xw_G (pc' := 54) (st' := [.ref 302]) rfl rfl trivial ?_
      refine xw_G (pc' := 55) (st' := [.int x1, .ref 302]) rfl rfl trivial ?_
      refine xb_e hf (fun v31 h32 e33 hf => ?_)
      refine xw_V (v := some (.int v31)) rfl rfl (xkf (xs_k hS rfl rfl : xm_k h29 302 = (11, 0))) (Nat.le_of_ble_eq_true rfl) (Nat.le_of_ble_eq_true rfl) (xm_Rn_le (Nat.le_of_ble_eq_true rfl) (t_X11_takeOver  hS e33).1) ?_
      have hS := (t_X11_takeOver  hS e33).2
      show xm_W _ _ _ 58 _ [.int v31] _
      refine xw_G (pc' := 60) (ls' := [some (.ref 302), some (.int x1), some (.int x2), some (.int x3), some (.int v31)]) (st' := []) rfl rfl (Nat.le_of_ble_eq_true rfl) ?_
      refine xw_G (pc' := 61) (st' := [.ref 302]) rfl rfl trivial ?_
      refine xw_G (pc' := 64) (st' := [.int (xm_i h32 302 28)]) rfl rfl (xkf (xs_k hS rfl rfl : xm_k h32 302 = (11, 0))) ?_
      exact xr_i (inj := xji) rfl rfl rfl rfl hf hQ hS
def f_X10_pass_52B (N : Nat) (ρ : Nat) (c1 : Int32) (rec : Int32 → xm_H → Option ((Int32 ⊕ Nat × Nat) × xm_H)) (c2 : Int32) (h : xm_H) : Option ((Int32 ⊕ Nat × Nat) × xm_H) := (if c2 < c1 then (xb (f_X2_passTick N ρ h) fun v2 h3 => (rec (c2 + (1 : Int32)) h3)) else (some (.inl (xm_i h 201 0), h)))
def f_X10_pass_52 (N : Nat) (ρ : Nat) (c1 : Int32) : Nat → Int32 → xm_H → Option ((Int32 ⊕ Nat × Nat) × xm_H)
  | 0 => fun _ _ => none
  | n + 1 => fun c2 h => f_X10_pass_52B N ρ c1 (f_X10_pass_52 N ρ c1 n) c2 h
def f_X10_pass (N : Nat) (ρ : Nat) (x1 : Int32) (h : xm_H) : Option ((Int32 ⊕ Nat × Nat) × xm_H) := (xe (f_X10_requireRange x1 (1 : Int32) (200 : Int32) h) (fun v1 h2 => (if (9999 : Int32) < ((xm_i h2 201 0) + x1) then (some (.inr (16, xm_n h2), xm_new h2 (16, 0))) else (xb (f_X3_remember h2) fun v5 h6 => (f_X10_pass_52 N ρ x1 N (0 : Int32) h6)))) (fun q8 h9 => (some (.inr q8, h9))))
theorem tl_X10_pass_52 {δ : Nat} {N : Nat} {ρ : Nat} {c1 : Int32} {Q : xm_O → xm_H → Prop} {w : (Int32 ⊕ Nat × Nat) × xm_H}  (hQ : xS ρ δ w.2 → Q (xti w.1) w.2)  : ∀ (n : Nat) (c2 : Int32) (h : xm_H), xS ρ δ h → f_X10_pass_52 N ρ c1 n c2 h = some w → xm_W (xm_Rn xX 3) xM_X10_pass Q 52 [some (.ref 160), some (.int c1), some (.int c2)] [] h := by
  intro n
  induction n with
  | zero =>
    intro c2 h hS hf
    exact (xn_e hf).elim
  | succ n ih =>
    intro c2 h hS hf
    replace hf : f_X10_pass_52B N ρ c1 (f_X10_pass_52 N ρ c1 n) c2 h = some w := hf
    unfold f_X10_pass_52B at hf
    refine xw_K (pc' := 53) (ls' := [some (.ref 160), some (.int c1), some (.int c2)]) (st' := [.int c2]) rfl rfl trivial ?_
    refine xw_G (pc' := 54) (st' := [.int c1, .int c2]) rfl rfl trivial ?_
    refine xj_ic_ge rfl hf (fun hc1 hf => ?_) (fun hc1 hf => ?_)
    · refine xw_G (pc' := 58) (st' := [.ref 160]) rfl rfl trivial ?_
      refine xw_gr rfl (xkf (xs_k hS rfl rfl : xm_k h 160 = (0, 0))) (xs_r hS rfl) ?_
      refine xb_e hf (fun v2 h3 e4 hf => ?_)
      refine xw_V (v := none) rfl rfl (xkf (xs_k hS rfl rfl : xm_k h 182 = (3, 0))) (Nat.le_of_ble_eq_true rfl) (Nat.le_of_ble_eq_true rfl) (xm_Rn_le (Nat.le_of_ble_eq_true rfl) (t_X2_passTick  hS e4).1) ?_
      have hS := (t_X2_passTick  hS e4).2
      show xm_W _ _ _ 64 _ [] _
      refine xw_G (pc' := 67) (ls' := [some (.ref 160), some (.int c1), some (.int (c2 + (1 : Int32)))]) (st' := []) rfl rfl (Nat.le_of_ble_eq_true rfl) ?_
      refine xw_G (pc' := 52) (st' := []) rfl rfl trivial ?_
      refine xw_M rfl rfl ?_
      exact ih _ _ hS hf
    · refine xw_G (pc' := 71) (st' := [.ref 160]) rfl rfl trivial ?_
      refine xw_gr rfl (xkf (xs_k hS rfl rfl : xm_k h 160 = (0, 0))) (xs_r hS rfl) ?_
      refine xw_gr rfl (xkf (xs_k hS rfl rfl : xm_k h 182 = (3, 0))) (xs_r hS rfl) ?_
      refine xw_G (pc' := 80) (st' := [.int (xm_i h 201 0)]) rfl rfl (xkf (xs_k hS rfl rfl : xm_k h 201 = (8, 0))) ?_
      exact xr_i (inj := xti) rfl rfl rfl rfl hf hQ hS
theorem t_X10_pass {N : Nat} {ρ : Nat} {δ : Nat} {x1 : Int32} {h : xm_H} {w : (Int32 ⊕ Nat × Nat) × xm_H}  (hS : xS ρ δ h) (hf : f_X10_pass N ρ x1 h = some w) : xm_Rn xX 4 100 [.ref 160, .int x1] h (xti w.1) w.2 ∧ xS ρ δ w.2 := by
  refine xt_mk (φ := fun h => xS ρ δ h) (M := xM_X10_pass) (ls := [some (.ref 160), some (.int x1), none]) rfl (Nat.le_of_ble_eq_true rfl) rfl (fun Q hQ => ?_)
  unfold f_X10_pass at hf
  refine xw_G (pc' := 1) (st' := [.int x1]) rfl rfl trivial ?_
  refine xw_G (pc' := 2) (st' := [.int (1 : Int32), .int x1]) rfl rfl trivial ?_
  refine xw_G (pc' := 5) (st' := [.int (200 : Int32), .int (1 : Int32), .int x1]) rfl rfl trivial ?_
  refine xe_e hf (fun v1 h2 e3 hf => ?_) (fun q8 h9 e3 hf => ?_)
  · refine xw_S (v := none) rfl (Nat.le_of_ble_eq_true rfl) (Nat.le_of_ble_eq_true rfl) (xm_Rn_le (Nat.le_of_ble_eq_true rfl) (t_X10_requireRange  hS e3).1) ?_
    have hS := (t_X10_requireRange  hS e3).2
    show xm_W _ _ _ 8 _ [] _
    refine xw_G (pc' := 9) (st' := [.ref 160]) rfl rfl trivial ?_
    refine xw_gr rfl (xkf (xs_k hS rfl rfl : xm_k h2 160 = (0, 0))) (xs_r hS rfl) ?_
    refine xw_gr rfl (xkf (xs_k hS rfl rfl : xm_k h2 182 = (3, 0))) (xs_r hS rfl) ?_
    refine xw_G (pc' := 18) (st' := [.int (xm_i h2 201 0)]) rfl rfl (xkf (xs_k hS rfl rfl : xm_k h2 201 = (8, 0))) ?_
    refine xw_G (pc' := 19) (st' := [.int x1, .int (xm_i h2 201 0)]) rfl rfl trivial ?_
    refine xw_G (pc' := 20) (st' := [.int ((xm_i h2 201 0) + x1)]) rfl rfl trivial ?_
    refine xw_G (pc' := 23) (st' := [.int (9999 : Int32), .int ((xm_i h2 201 0) + x1)]) rfl rfl trivial ?_
    refine xj_ic_le rfl hf (fun hc4 hf => ?_) (fun hc4 hf => ?_)
    · exact xr_t (inj := xti) rfl (Nat.le_of_ble_eq_true rfl) rfl hf hQ (xS_new hS rfl)
    · refine xw_G (pc' := 37) (st' := [.ref 160]) rfl rfl trivial ?_
      refine xw_gr rfl (xkf (xs_k hS rfl rfl : xm_k h2 160 = (0, 0))) (xs_r hS rfl) ?_
      refine xw_G (pc' := 41) (st' := [.ref 160, .ref 234]) rfl rfl trivial ?_
      refine xw_gr rfl (xkf (xs_k hS rfl rfl : xm_k h2 160 = (0, 0))) (xs_r hS rfl) ?_
      refine xw_gr rfl (xkf (xs_k hS rfl rfl : xm_k h2 182 = (3, 0))) (xs_r hS rfl) ?_
      refine xb_e hf (fun v5 h6 e7 hf => ?_)
      refine xw_V (v := none) rfl rfl (xkf (xs_k hS rfl rfl : xm_k h2 234 = (4, 0))) (Nat.le_of_ble_eq_true rfl) (Nat.le_of_ble_eq_true rfl) (xm_Rn_le (Nat.le_of_ble_eq_true rfl) (t_X3_remember  hS e7).1) ?_
      have hS := (t_X3_remember  hS e7).2
      show xm_W _ _ _ 50 _ [] _
      refine xw_G (pc' := 51) (st' := [.int (0 : Int32)]) rfl rfl trivial ?_
      refine xw_G (pc' := 52) (ls' := [some (.ref 160), some (.int x1), some (.int (0 : Int32))]) (st' := []) rfl rfl (Nat.le_of_ble_eq_true rfl) ?_
      refine xw_M rfl rfl ?_
      refine tl_X10_pass_52  hQ  _ _ _ hS hf
  · refine xw_SX (x := q8) rfl (Nat.le_of_ble_eq_true rfl) (Nat.le_of_ble_eq_true rfl) (xm_Rn_le (Nat.le_of_ble_eq_true rfl) (t_X10_requireRange  hS e3).1) rfl ?_
    have hS := (t_X10_requireRange  hS e3).2
    exact xr_x (inj := xti) rfl hf hQ hS
def f_L_pass (N : Nat) (ρ : Nat) (x1 : Int32) (h : xm_H) : Option (Int32 × xm_H) := (xe (f_X10_pass N ρ x1 h) (fun v1 h2 => (xl (xm_sl h2 316 0 (Int32.toInt64 v1)) fun h4 => (some ((0 : Int32), h4)))) (fun q6 h7 => (if (q6).1 = 15 then (some ((1 : Int32), h7)) else (if (q6).1 = 16 then (some ((2 : Int32), h7)) else none))))
theorem t_L_pass {N : Nat} {ρ : Nat} {δ : Nat} {x1 : Int32} {h : xm_H} {w : Int32 × xm_H}  (hS : xS ρ δ h) (hf : f_L_pass N ρ x1 h = some w) : xm_Rn xX 5 346 [.ref 160, .int x1, .ref 316] h (xji w.1) w.2 ∧ xS ρ δ w.2 := by
  refine xt_mk (φ := fun h => xS ρ δ h) (M := xM_L_pass) (ls := [some (.ref 160), some (.int x1), some (.ref 316), none]) rfl (Nat.le_of_ble_eq_true rfl) rfl (fun Q hQ => ?_)
  unfold f_L_pass at hf
  refine xw_G (pc' := 1) (st' := [.ref 316]) rfl rfl trivial ?_
  refine xw_G (pc' := 2) (st' := [.int (0 : Int32), .ref 316]) rfl rfl trivial ?_
  refine xw_G (pc' := 3) (st' := [.ref 160, .int (0 : Int32), .ref 316]) rfl rfl trivial ?_
  refine xw_G (pc' := 4) (st' := [.int x1, .ref 160, .int (0 : Int32), .ref 316]) rfl rfl trivial ?_
  refine xe_e hf (fun v1 h2 e3 hf => ?_) (fun q6 h7 e3 hf => ?_)
  · refine xw_V (v := some (.int v1)) rfl rfl (xkf (xs_k hS rfl rfl : xm_k h 160 = (0, 0))) (Nat.le_of_ble_eq_true rfl) (Nat.le_of_ble_eq_true rfl) (xm_Rn_le (Nat.le_of_ble_eq_true rfl) (t_X10_pass  hS e3).1) ?_
    have hS := (t_X10_pass  hS e3).2
    show xm_W _ _ _ 7 _ [.int v1, .int (0 : Int32), .ref 316] _
    refine xw_G (pc' := 8) (st' := [.long (Int32.toInt64 v1), .int (0 : Int32), .ref 316]) rfl rfl trivial ?_
    refine xa_l rfl (xkf (xs_k hS rfl rfl : xm_k h2 316 = (104, 1))) (xkn (xs_k hS rfl rfl : xm_k h2 316 = (104, 1))) (by decide : xin (0 : Int32) 1) (Nat.le_of_ble_eq_true rfl) hf (fun h4 e5 hf => ?_)
    have hS := xS_sl hS e5
    refine xw_G (pc' := 18) (st' := []) rfl rfl trivial ?_
    refine xw_G (pc' := 19) (st' := [.int (0 : Int32)]) rfl rfl trivial ?_
    exact xr_i (inj := xji) rfl rfl rfl rfl hf hQ hS
  · by_cases hc8 : (q6).1 = 15
    · rw [if_pos hc8] at hf
      refine xw_VH (x := q6) (p := 12) rfl rfl (xkf (xs_k hS rfl rfl : xm_k h 160 = (0, 0))) (Nat.le_of_ble_eq_true rfl) (Nat.le_of_ble_eq_true rfl) (xm_Rn_le (Nat.le_of_ble_eq_true rfl) (t_X10_pass  hS e3).1) (by rw [hc8]; rfl) ?_
      have hS := (t_X10_pass  hS e3).2
      refine xw_G (pc' := 13) (ls' := [some (.ref 160), some (.int x1), some (.ref 316), some (.ref ((q6).2))]) (st' := []) rfl rfl (Nat.le_of_ble_eq_true rfl) ?_
      refine xw_G (pc' := 14) (st' := [.int (1 : Int32)]) rfl rfl trivial ?_
      exact xr_i (inj := xji) rfl rfl rfl rfl hf hQ hS
    · rw [if_neg hc8] at hf
      by_cases hc8 : (q6).1 = 16
      · rw [if_pos hc8] at hf
        refine xw_VH (x := q6) (p := 15) rfl rfl (xkf (xs_k hS rfl rfl : xm_k h 160 = (0, 0))) (Nat.le_of_ble_eq_true rfl) (Nat.le_of_ble_eq_true rfl) (xm_Rn_le (Nat.le_of_ble_eq_true rfl) (t_X10_pass  hS e3).1) (by rw [hc8]; rfl) ?_
        have hS := (t_X10_pass  hS e3).2
        refine xw_G (pc' := 16) (ls' := [some (.ref 160), some (.int x1), some (.ref 316), some (.ref ((q6).2))]) (st' := []) rfl rfl (Nat.le_of_ble_eq_true rfl) ?_
        refine xw_G (pc' := 17) (st' := [.int (2 : Int32)]) rfl rfl trivial ?_
        exact xr_i (inj := xji) rfl rfl rfl rfl hf hQ hS
      · rw [if_neg hc8] at hf
        exact (xn_e hf).elim
def f_X11_pass_46B (N : Nat) (c1 : Int32) (rec : Int32 → xm_H → Option (Int32 × xm_H)) (c2 : Int32) (h : xm_H) : Option (Int32 × xm_H) := (if c2 < c1 then (xb (f_X11_passTick N h) fun v2 h3 => (rec (c2 + (1 : Int32)) h3)) else (some (xm_i h 303 0, h)))
def f_X11_pass_46 (N : Nat) (c1 : Int32) : Nat → Int32 → xm_H → Option (Int32 × xm_H)
  | 0 => fun _ _ => none
  | n + 1 => fun c2 h => f_X11_pass_46B N c1 (f_X11_pass_46 N c1 n) c2 h
def f_X11_pass (N : Nat) (x1 : Int32) (h : xm_H) : Option (Int32 × xm_H) := (xb (f_X11_between (Int32.toInt64 x1) (1 : Int64) (200 : Int64) h) fun v1 h2 => (if 0 < (lg_cmp ((Int32.toInt64 (xm_i h2 303 0)) + (Int32.toInt64 x1)) (9999 : Int64)) then (xb (f_X11_good_ v1 (0 : Int32) h2) fun v5 h6 => (if v5 = 0 then (some ((0 : Int32), h6)) else (xb (f_X11_remember N h6) fun v9 h10 => (f_X11_pass_46 N x1 N (0 : Int32) h10)))) else (xb (f_X11_good_ v1 (1 : Int32) h2) fun v12 h13 => (if v12 = 0 then (some ((0 : Int32), h13)) else (xb (f_X11_remember N h13) fun v16 h17 => (f_X11_pass_46 N x1 N (0 : Int32) h17))))))
theorem tl_X11_pass_46 {ρ : Nat} {δ : Nat} {N : Nat} {c1 : Int32} {Q : xm_O → xm_H → Prop} {w : Int32 × xm_H}  (hQ : xS ρ δ w.2 → Q (xji w.1) w.2)  : ∀ (n : Nat) (c2 : Int32) (h : xm_H), xS ρ δ h → f_X11_pass_46 N c1 n c2 h = some w → xm_W (xm_Rn xX 4) xM_X11_pass Q 46 [some (.ref 302), some (.int c1), some (.int c2)] [] h := by
  intro n
  induction n with
  | zero =>
    intro c2 h hS hf
    exact (xn_e hf).elim
  | succ n ih =>
    intro c2 h hS hf
    replace hf : f_X11_pass_46B N c1 (f_X11_pass_46 N c1 n) c2 h = some w := hf
    unfold f_X11_pass_46B at hf
    refine xw_K (pc' := 47) (ls' := [some (.ref 302), some (.int c1), some (.int c2)]) (st' := [.int c2]) rfl rfl trivial ?_
    refine xw_G (pc' := 48) (st' := [.int c1, .int c2]) rfl rfl trivial ?_
    refine xj_ic_ge rfl hf (fun hc1 hf => ?_) (fun hc1 hf => ?_)
    · refine xw_G (pc' := 52) (st' := [.ref 302]) rfl rfl trivial ?_
      refine xb_e hf (fun v2 h3 e4 hf => ?_)
      refine xw_V (v := none) rfl rfl (xkf (xs_k hS rfl rfl : xm_k h 302 = (11, 0))) (Nat.le_of_ble_eq_true rfl) (Nat.le_of_ble_eq_true rfl) (xm_Rn_le (Nat.le_of_ble_eq_true rfl) (t_X11_passTick  hS e4).1) ?_
      have hS := (t_X11_passTick  hS e4).2
      show xm_W _ _ _ 55 _ [] _
      refine xw_G (pc' := 58) (ls' := [some (.ref 302), some (.int c1), some (.int (c2 + (1 : Int32)))]) (st' := []) rfl rfl (Nat.le_of_ble_eq_true rfl) ?_
      refine xw_G (pc' := 46) (st' := []) rfl rfl trivial ?_
      refine xw_M rfl rfl ?_
      exact ih _ _ hS hf
    · refine xw_G (pc' := 62) (st' := [.ref 302]) rfl rfl trivial ?_
      refine xw_gr rfl (xkf (xs_k hS rfl rfl : xm_k h 302 = (11, 0))) (xs_r hS rfl) ?_
      refine xw_G (pc' := 66) (st' := [.int (0 : Int32), .ref 303]) rfl rfl trivial ?_
      refine xa_ld (t := 100) (τ := 0) (v := .int (xm_i h 303 0)) rfl rfl (xkf (xs_k hS rfl rfl : xm_k h 303 = (100, 2217))) (xkn (xs_k hS rfl rfl : xm_k h 303 = (100, 2217))) (by decide : xin (0 : Int32) 2217) rfl ?_
      exact xr_i (inj := xji) rfl rfl rfl rfl hf hQ hS
theorem t_X11_pass {N : Nat} {ρ : Nat} {δ : Nat} {x1 : Int32} {h : xm_H} {w : Int32 × xm_H}  (hS : xS ρ δ h) (hf : f_X11_pass N x1 h = some w) : xm_Rn xX 5 215 [.ref 302, .int x1] h (xji w.1) w.2 ∧ xS ρ δ w.2 := by
  refine xt_mk (φ := fun h => xS ρ δ h) (M := xM_X11_pass) (ls := [some (.ref 302), some (.int x1), none]) rfl (Nat.le_of_ble_eq_true rfl) rfl (fun Q hQ => ?_)
  unfold f_X11_pass at hf
  refine xw_G (pc' := 1) (st' := [.ref 302]) rfl rfl trivial ?_
  refine xw_G (pc' := 2) (st' := [.int x1, .ref 302]) rfl rfl trivial ?_
  refine xw_G (pc' := 3) (st' := [.long (Int32.toInt64 x1), .ref 302]) rfl rfl trivial ?_
  refine xw_G (pc' := 4) (st' := [.long (1 : Int64), .long (Int32.toInt64 x1), .ref 302]) rfl rfl trivial ?_
  refine xw_G (pc' := 7) (st' := [.long (200 : Int64), .long (1 : Int64), .long (Int32.toInt64 x1), .ref 302]) rfl rfl trivial ?_
  refine xb_e hf (fun v1 h2 e3 hf => ?_)
  refine xw_S (v := some (.int v1)) rfl (Nat.le_of_ble_eq_true rfl) (Nat.le_of_ble_eq_true rfl) (xm_Rn_le (Nat.le_of_ble_eq_true rfl) (t_X11_between  hS e3).1) ?_
  have hS := (t_X11_between  hS e3).2
  show xm_W _ _ _ 10 _ [.int v1, .ref 302] _
  refine xw_G (pc' := 11) (st' := [.ref 302, .int v1, .ref 302]) rfl rfl trivial ?_
  refine xw_gr rfl (xkf (xs_k hS rfl rfl : xm_k h2 302 = (11, 0))) (xs_r hS rfl) ?_
  refine xw_G (pc' := 15) (st' := [.int (0 : Int32), .ref 303, .int v1, .ref 302]) rfl rfl trivial ?_
  refine xa_ld (t := 100) (τ := 0) (v := .int (xm_i h2 303 0)) rfl rfl (xkf (xs_k hS rfl rfl : xm_k h2 303 = (100, 2217))) (xkn (xs_k hS rfl rfl : xm_k h2 303 = (100, 2217))) (by decide : xin (0 : Int32) 2217) rfl ?_
  refine xw_G (pc' := 17) (st' := [.long (Int32.toInt64 (xm_i h2 303 0)), .int v1, .ref 302]) rfl rfl trivial ?_
  refine xw_G (pc' := 18) (st' := [.int x1, .long (Int32.toInt64 (xm_i h2 303 0)), .int v1, .ref 302]) rfl rfl trivial ?_
  refine xw_G (pc' := 19) (st' := [.long (Int32.toInt64 x1), .long (Int32.toInt64 (xm_i h2 303 0)), .int v1, .ref 302]) rfl rfl trivial ?_
  refine xw_G (pc' := 20) (st' := [.long ((Int32.toInt64 (xm_i h2 303 0)) + (Int32.toInt64 x1)), .int v1, .ref 302]) rfl rfl trivial ?_
  refine xw_G (pc' := 23) (st' := [.long (9999 : Int64), .long ((Int32.toInt64 (xm_i h2 303 0)) + (Int32.toInt64 x1)), .int v1, .ref 302]) rfl rfl trivial ?_
  refine xw_G (pc' := 24) (st' := [.int (lg_cmp ((Int32.toInt64 (xm_i h2 303 0)) + (Int32.toInt64 x1)) (9999 : Int64)), .int v1, .ref 302]) rfl rfl trivial ?_
  refine xj_if_gt rfl hf (fun hc4 hf => ?_) (fun hc4 hf => ?_)
  · refine xw_G (pc' := 32) (st' := [.int (0 : Int32), .int v1, .ref 302]) rfl rfl trivial ?_
    refine xb_e hf (fun v5 h6 e7 hf => ?_)
    refine xw_V (v := some (.int v5)) rfl rfl (xkf (xs_k hS rfl rfl : xm_k h2 302 = (11, 0))) (Nat.le_of_ble_eq_true rfl) (Nat.le_of_ble_eq_true rfl) (xm_Rn_le (Nat.le_of_ble_eq_true rfl) (t_X11_good_  hS e7).1) ?_
    have hS := (t_X11_good_  hS e7).2
    show xm_W _ _ _ 35 _ [.int v5] _
    refine xj_if_ne rfl hf (fun hc8 hf => ?_) (fun hc8 hf => ?_)
    · refine xw_G (pc' := 39) (st' := [.int (0 : Int32)]) rfl rfl trivial ?_
      exact xr_i (inj := xji) rfl rfl rfl rfl hf hQ hS
    · refine xw_G (pc' := 41) (st' := [.ref 302]) rfl rfl trivial ?_
      refine xb_e hf (fun v9 h10 e11 hf => ?_)
      refine xw_V (v := none) rfl rfl (xkf (xs_k hS rfl rfl : xm_k h6 302 = (11, 0))) (Nat.le_of_ble_eq_true rfl) (Nat.le_of_ble_eq_true rfl) (xm_Rn_le (Nat.le_of_ble_eq_true rfl) (t_X11_remember  hS e11).1) ?_
      have hS := (t_X11_remember  hS e11).2
      show xm_W _ _ _ 44 _ [] _
      refine xw_G (pc' := 45) (st' := [.int (0 : Int32)]) rfl rfl trivial ?_
      refine xw_G (pc' := 46) (ls' := [some (.ref 302), some (.int x1), some (.int (0 : Int32))]) (st' := []) rfl rfl (Nat.le_of_ble_eq_true rfl) ?_
      refine xw_M rfl rfl ?_
      refine tl_X11_pass_46  hQ  _ _ _ hS hf
  · refine xw_G (pc' := 28) (st' := [.int (1 : Int32), .int v1, .ref 302]) rfl rfl trivial ?_
    refine xw_G (pc' := 32) (st' := [.int (1 : Int32), .int v1, .ref 302]) rfl rfl trivial ?_
    refine xb_e hf (fun v12 h13 e14 hf => ?_)
    refine xw_V (v := some (.int v12)) rfl rfl (xkf (xs_k hS rfl rfl : xm_k h2 302 = (11, 0))) (Nat.le_of_ble_eq_true rfl) (Nat.le_of_ble_eq_true rfl) (xm_Rn_le (Nat.le_of_ble_eq_true rfl) (t_X11_good_  hS e14).1) ?_
    have hS := (t_X11_good_  hS e14).2
    show xm_W _ _ _ 35 _ [.int v12] _
    refine xj_if_ne rfl hf (fun hc15 hf => ?_) (fun hc15 hf => ?_)
    · refine xw_G (pc' := 39) (st' := [.int (0 : Int32)]) rfl rfl trivial ?_
      exact xr_i (inj := xji) rfl rfl rfl rfl hf hQ hS
    · refine xw_G (pc' := 41) (st' := [.ref 302]) rfl rfl trivial ?_
      refine xb_e hf (fun v16 h17 e18 hf => ?_)
      refine xw_V (v := none) rfl rfl (xkf (xs_k hS rfl rfl : xm_k h13 302 = (11, 0))) (Nat.le_of_ble_eq_true rfl) (Nat.le_of_ble_eq_true rfl) (xm_Rn_le (Nat.le_of_ble_eq_true rfl) (t_X11_remember  hS e18).1) ?_
      have hS := (t_X11_remember  hS e18).2
      show xm_W _ _ _ 44 _ [] _
      refine xw_G (pc' := 45) (st' := [.int (0 : Int32)]) rfl rfl trivial ?_
      refine xw_G (pc' := 46) (ls' := [some (.ref 302), some (.int x1), some (.int (0 : Int32))]) (st' := []) rfl rfl (Nat.le_of_ble_eq_true rfl) ?_
      refine xw_M rfl rfl ?_
      refine tl_X11_pass_46  hQ  _ _ _ hS hf
def f_X1_begin_30B (N : Nat) (c1 : Int32) (rec : Int32 → xm_H → Option (Unit × xm_H)) (c3 : Int32) (h : xm_H) : Option (Unit × xm_H) := (if c3 < (8 : Int32) then (if xin ((c1 * (8 : Int32)) + c3) 320 then (xl (xm_si h 233 (Int32.toNatClampNeg ((c1 * (8 : Int32)) + c3)) (0 : Int32)) fun h3 => (rec (c3 + (1 : Int32)) h3)) else none) else (some ((), h)))
def f_X1_begin_30 (N : Nat) (c1 : Int32) : Nat → Int32 → xm_H → Option (Unit × xm_H)
  | 0 => fun _ _ => none
  | n + 1 => fun c3 h => f_X1_begin_30B N c1 (f_X1_begin_30 N c1 n) c3 h
def f_X1_begin (N : Nat) (x1 : Int32) (x2 : Int32) (h : xm_H) : Option (Unit × xm_H) := (if xin x1 40 then (xl (xm_si h 229 (Int32.toNatClampNeg x1) x2) fun h2 => (xl (xm_si h2 230 (Int32.toNatClampNeg x1) (-1 : Int32)) fun h4 => (xl (xm_si h4 231 (Int32.toNatClampNeg x1) (-1 : Int32)) fun h6 => (xl (xm_si h6 232 (Int32.toNatClampNeg x1) (0 : Int32)) fun h8 => (f_X1_begin_30 N x1 N (0 : Int32) h8))))) else none)
theorem tl_X1_begin_30 {ρ : Nat} {δ : Nat} {N : Nat} {c1 : Int32} {Q : xm_O → xm_H → Prop} {w : Unit × xm_H}  (hQ : xS ρ δ w.2 → Q (xjv w.1) w.2)  : ∀ (n : Nat) (c3 : Int32) (h : xm_H), xS ρ δ h → f_X1_begin_30 N c1 n c3 h = some w → xm_W (xm_Rn xX 0) xM_X1_begin Q 30 [some (.ref 228), some (.int c1), none, some (.int c3)] [] h := by
  intro n
  induction n with
  | zero =>
    intro c3 h hS hf
    exact (xn_e hf).elim
  | succ n ih =>
    intro c3 h hS hf
    replace hf : f_X1_begin_30B N c1 (f_X1_begin_30 N c1 n) c3 h = some w := hf
    unfold f_X1_begin_30B at hf
    refine xw_K (pc' := 31) (ls' := [some (.ref 228), some (.int c1), none, some (.int c3)]) (st' := [.int c3]) rfl rfl trivial ?_
    refine xw_G (pc' := 33) (st' := [.int (8 : Int32), .int c3]) rfl rfl trivial ?_
    refine xj_ic_ge rfl hf (fun hc1 hf => ?_) (fun hc1 hf => ?_)
    · refine xw_G (pc' := 37) (st' := [.ref 228]) rfl rfl trivial ?_
      refine xw_gr rfl (xkf (xs_k hS rfl rfl : xm_k h 228 = (2, 0))) (xs_r hS rfl) ?_
      refine xw_G (pc' := 41) (st' := [.int c1, .ref 233]) rfl rfl trivial ?_
      refine xw_G (pc' := 43) (st' := [.int (8 : Int32), .int c1, .ref 233]) rfl rfl trivial ?_
      refine xw_G (pc' := 44) (st' := [.int (c1 * (8 : Int32)), .ref 233]) rfl rfl trivial ?_
      refine xw_G (pc' := 45) (st' := [.int c3, .int (c1 * (8 : Int32)), .ref 233]) rfl rfl trivial ?_
      refine xw_G (pc' := 46) (st' := [.int ((c1 * (8 : Int32)) + c3), .ref 233]) rfl rfl trivial ?_
      refine xw_G (pc' := 47) (st' := [.int (0 : Int32), .int ((c1 * (8 : Int32)) + c3), .ref 233]) rfl rfl trivial ?_
      refine xg_e hf (fun hg2 hf => ?_)
      refine xa_i rfl (xkf (xs_k hS rfl rfl : xm_k h 233 = (100, 320))) (xkn (xs_k hS rfl rfl : xm_k h 233 = (100, 320))) hg2 (Nat.le_of_ble_eq_true rfl) hf (fun h3 e4 hf => ?_)
      have hS := xS_si hS e4
      refine xw_G (pc' := 51) (ls' := [some (.ref 228), some (.int c1), none, some (.int (c3 + (1 : Int32)))]) (st' := []) rfl rfl (Nat.le_of_ble_eq_true rfl) ?_
      refine xw_G (pc' := 30) (st' := []) rfl rfl trivial ?_
      refine xw_M rfl rfl ?_
      exact ih _ _ hS hf
    · exact xr_v (inj := xjv) rfl rfl hf hQ hS
theorem t_X1_begin {N : Nat} {ρ : Nat} {δ : Nat} {x1 : Int32} {x2 : Int32} {h : xm_H} {w : Unit × xm_H}  (hS : xS ρ δ h) (hf : f_X1_begin N x1 x2 h = some w) : xm_Rn xX 1 2 [.ref 228, .int x1, .int x2] h (xjv w.1) w.2 ∧ xS ρ δ w.2 := by
  refine xt_mk (φ := fun h => xS ρ δ h) (M := xM_X1_begin) (ls := [some (.ref 228), some (.int x1), some (.int x2), none]) rfl (Nat.le_of_ble_eq_true rfl) rfl (fun Q hQ => ?_)
  unfold f_X1_begin at hf
  refine xw_G (pc' := 1) (st' := [.ref 228]) rfl rfl trivial ?_
  refine xw_gr rfl (xkf (xs_k hS rfl rfl : xm_k h 228 = (2, 0))) (xs_r hS rfl) ?_
  refine xw_G (pc' := 5) (st' := [.int x1, .ref 229]) rfl rfl trivial ?_
  refine xw_G (pc' := 6) (st' := [.int x2, .int x1, .ref 229]) rfl rfl trivial ?_
  refine xg_e hf (fun hg1 hf => ?_)
  refine xa_i rfl (xkf (xs_k hS rfl rfl : xm_k h 229 = (100, 40))) (xkn (xs_k hS rfl rfl : xm_k h 229 = (100, 40))) hg1 (Nat.le_of_ble_eq_true rfl) hf (fun h2 e3 hf => ?_)
  have hS := xS_si hS e3
  refine xw_G (pc' := 8) (st' := [.ref 228]) rfl rfl trivial ?_
  refine xw_gr rfl (xkf (xs_k hS rfl rfl : xm_k h2 228 = (2, 0))) (xs_r hS rfl) ?_
  refine xw_G (pc' := 12) (st' := [.int x1, .ref 230]) rfl rfl trivial ?_
  refine xw_G (pc' := 13) (st' := [.int (-1 : Int32), .int x1, .ref 230]) rfl rfl trivial ?_
  refine xa_i rfl (xkf (xs_k hS rfl rfl : xm_k h2 230 = (100, 40))) (xkn (xs_k hS rfl rfl : xm_k h2 230 = (100, 40))) hg1 (Nat.le_of_ble_eq_true rfl) hf (fun h4 e5 hf => ?_)
  have hS := xS_si hS e5
  refine xw_G (pc' := 15) (st' := [.ref 228]) rfl rfl trivial ?_
  refine xw_gr rfl (xkf (xs_k hS rfl rfl : xm_k h4 228 = (2, 0))) (xs_r hS rfl) ?_
  refine xw_G (pc' := 19) (st' := [.int x1, .ref 231]) rfl rfl trivial ?_
  refine xw_G (pc' := 20) (st' := [.int (-1 : Int32), .int x1, .ref 231]) rfl rfl trivial ?_
  refine xa_i rfl (xkf (xs_k hS rfl rfl : xm_k h4 231 = (100, 40))) (xkn (xs_k hS rfl rfl : xm_k h4 231 = (100, 40))) hg1 (Nat.le_of_ble_eq_true rfl) hf (fun h6 e7 hf => ?_)
  have hS := xS_si hS e7
  refine xw_G (pc' := 22) (st' := [.ref 228]) rfl rfl trivial ?_
  refine xw_gr rfl (xkf (xs_k hS rfl rfl : xm_k h6 228 = (2, 0))) (xs_r hS rfl) ?_
  refine xw_G (pc' := 26) (st' := [.int x1, .ref 232]) rfl rfl trivial ?_
  refine xw_G (pc' := 27) (st' := [.int (0 : Int32), .int x1, .ref 232]) rfl rfl trivial ?_
  refine xa_i rfl (xkf (xs_k hS rfl rfl : xm_k h6 232 = (100, 40))) (xkn (xs_k hS rfl rfl : xm_k h6 232 = (100, 40))) hg1 (Nat.le_of_ble_eq_true rfl) hf (fun h8 e9 hf => ?_)
  have hS := xS_si hS e9
  refine xw_G (pc' := 29) (st' := [.int (0 : Int32)]) rfl rfl trivial ?_
  refine xw_G (pc' := 30) (ls' := [some (.ref 228), some (.int x1), some (.int x2), some (.int (0 : Int32))]) (st' := []) rfl rfl (Nat.le_of_ble_eq_true rfl) ?_
  refine xw_M rfl rfl ?_
  refine tl_X1_begin_30  hQ  _ _ _ hS hf
def f_X1_share (x1 : Int32) (x2 : Int32) (h : xm_H) : Option (Unit × xm_H) := (if xin x1 40 then (if (xm_i h 232 (Int32.toNatClampNeg x1)) = 0 then (xl (xm_si h 230 (Int32.toNatClampNeg x1) x2) fun h3 => (xl (xm_si h3 231 (Int32.toNatClampNeg x1) x2) fun h5 => (xl (xm_si h5 232 (Int32.toNatClampNeg x1) ((xm_i h5 232 (Int32.toNatClampNeg x1)) + (1 : Int32))) fun h7 => (if xin ((x1 * (8 : Int32)) + x2) 320 then (xl (xm_si h7 233 (Int32.toNatClampNeg ((x1 * (8 : Int32)) + x2)) ((xm_i h7 233 (Int32.toNatClampNeg ((x1 * (8 : Int32)) + x2))) + (1 : Int32))) fun h10 => (some ((), h10))) else none)))) else (xl (xm_si h 231 (Int32.toNatClampNeg x1) x2) fun h12 => (xl (xm_si h12 232 (Int32.toNatClampNeg x1) ((xm_i h12 232 (Int32.toNatClampNeg x1)) + (1 : Int32))) fun h14 => (if xin ((x1 * (8 : Int32)) + x2) 320 then (xl (xm_si h14 233 (Int32.toNatClampNeg ((x1 * (8 : Int32)) + x2)) ((xm_i h14 233 (Int32.toNatClampNeg ((x1 * (8 : Int32)) + x2))) + (1 : Int32))) fun h17 => (some ((), h17))) else none)))) else none)
theorem t_X1_share {ρ : Nat} {δ : Nat} {x1 : Int32} {x2 : Int32} {h : xm_H} {w : Unit × xm_H}  (hS : xS ρ δ h) (hf : f_X1_share x1 x2 h = some w) : xm_Rn xX 1 3 [.ref 228, .int x1, .int x2] h (xjv w.1) w.2 ∧ xS ρ δ w.2 := by
  refine xt_mk (φ := fun h => xS ρ δ h) (M := xM_X1_share) (ls := [some (.ref 228), some (.int x1), some (.int x2)]) rfl (Nat.le_of_ble_eq_true rfl) rfl (fun Q hQ => ?_)
  unfold f_X1_share at hf
  refine xw_G (pc' := 1) (st' := [.ref 228]) rfl rfl trivial ?_
  refine xw_gr rfl (xkf (xs_k hS rfl rfl : xm_k h 228 = (2, 0))) (xs_r hS rfl) ?_
  refine xw_G (pc' := 5) (st' := [.int x1, .ref 232]) rfl rfl trivial ?_
  refine xg_e hf (fun hg1 hf => ?_)
  refine xa_ld (t := 100) (τ := 0) (v := .int (xm_i h 232 (Int32.toNatClampNeg x1))) rfl rfl (xkf (xs_k hS rfl rfl : xm_k h 232 = (100, 40))) (xkn (xs_k hS rfl rfl : xm_k h 232 = (100, 40))) hg1 rfl ?_
  refine xj_if_ne rfl hf (fun hc2 hf => ?_) (fun hc2 hf => ?_)
  · refine xw_G (pc' := 10) (st' := [.ref 228]) rfl rfl trivial ?_
    refine xw_gr rfl (xkf (xs_k hS rfl rfl : xm_k h 228 = (2, 0))) (xs_r hS rfl) ?_
    refine xw_G (pc' := 14) (st' := [.int x1, .ref 230]) rfl rfl trivial ?_
    refine xw_G (pc' := 15) (st' := [.int x2, .int x1, .ref 230]) rfl rfl trivial ?_
    refine xa_i rfl (xkf (xs_k hS rfl rfl : xm_k h 230 = (100, 40))) (xkn (xs_k hS rfl rfl : xm_k h 230 = (100, 40))) hg1 (Nat.le_of_ble_eq_true rfl) hf (fun h3 e4 hf => ?_)
    have hS := xS_si hS e4
    refine xw_G (pc' := 17) (st' := [.ref 228]) rfl rfl trivial ?_
    refine xw_gr rfl (xkf (xs_k hS rfl rfl : xm_k h3 228 = (2, 0))) (xs_r hS rfl) ?_
    refine xw_G (pc' := 21) (st' := [.int x1, .ref 231]) rfl rfl trivial ?_
    refine xw_G (pc' := 22) (st' := [.int x2, .int x1, .ref 231]) rfl rfl trivial ?_
    refine xa_i rfl (xkf (xs_k hS rfl rfl : xm_k h3 231 = (100, 40))) (xkn (xs_k hS rfl rfl : xm_k h3 231 = (100, 40))) hg1 (Nat.le_of_ble_eq_true rfl) hf (fun h5 e6 hf => ?_)
    have hS := xS_si hS e6
    refine xw_G (pc' := 24) (st' := [.ref 228]) rfl rfl trivial ?_
    refine xw_gr rfl (xkf (xs_k hS rfl rfl : xm_k h5 228 = (2, 0))) (xs_r hS rfl) ?_
    refine xw_G (pc' := 28) (st' := [.int x1, .ref 232]) rfl rfl trivial ?_
    refine xw_G (pc' := 29) (st' := [.int x1, .ref 232, .int x1, .ref 232]) rfl rfl ⟨rfl, rfl⟩ ?_
    refine xa_ld (t := 100) (τ := 0) (v := .int (xm_i h5 232 (Int32.toNatClampNeg x1))) rfl rfl (xkf (xs_k hS rfl rfl : xm_k h5 232 = (100, 40))) (xkn (xs_k hS rfl rfl : xm_k h5 232 = (100, 40))) hg1 rfl ?_
    refine xw_G (pc' := 31) (st' := [.int (1 : Int32), .int (xm_i h5 232 (Int32.toNatClampNeg x1)), .int x1, .ref 232]) rfl rfl trivial ?_
    refine xw_G (pc' := 32) (st' := [.int ((xm_i h5 232 (Int32.toNatClampNeg x1)) + (1 : Int32)), .int x1, .ref 232]) rfl rfl trivial ?_
    refine xa_i rfl (xkf (xs_k hS rfl rfl : xm_k h5 232 = (100, 40))) (xkn (xs_k hS rfl rfl : xm_k h5 232 = (100, 40))) hg1 (Nat.le_of_ble_eq_true rfl) hf (fun h7 e8 hf => ?_)
    have hS := xS_si hS e8
    refine xw_G (pc' := 34) (st' := [.ref 228]) rfl rfl trivial ?_
    refine xw_gr rfl (xkf (xs_k hS rfl rfl : xm_k h7 228 = (2, 0))) (xs_r hS rfl) ?_
    refine xw_G (pc' := 38) (st' := [.int x1, .ref 233]) rfl rfl trivial ?_
    refine xw_G (pc' := 40) (st' := [.int (8 : Int32), .int x1, .ref 233]) rfl rfl trivial ?_
    refine xw_G (pc' := 41) (st' := [.int (x1 * (8 : Int32)), .ref 233]) rfl rfl trivial ?_
    refine xw_G (pc' := 42) (st' := [.int x2, .int (x1 * (8 : Int32)), .ref 233]) rfl rfl trivial ?_
    refine xw_G (pc' := 43) (st' := [.int ((x1 * (8 : Int32)) + x2), .ref 233]) rfl rfl trivial ?_
    refine xw_G (pc' := 44) (st' := [.int ((x1 * (8 : Int32)) + x2), .ref 233, .int ((x1 * (8 : Int32)) + x2), .ref 233]) rfl rfl ⟨rfl, rfl⟩ ?_
    refine xg_e hf (fun hg9 hf => ?_)
    refine xa_ld (t := 100) (τ := 0) (v := .int (xm_i h7 233 (Int32.toNatClampNeg ((x1 * (8 : Int32)) + x2)))) rfl rfl (xkf (xs_k hS rfl rfl : xm_k h7 233 = (100, 320))) (xkn (xs_k hS rfl rfl : xm_k h7 233 = (100, 320))) hg9 rfl ?_
    refine xw_G (pc' := 46) (st' := [.int (1 : Int32), .int (xm_i h7 233 (Int32.toNatClampNeg ((x1 * (8 : Int32)) + x2))), .int ((x1 * (8 : Int32)) + x2), .ref 233]) rfl rfl trivial ?_
    refine xw_G (pc' := 47) (st' := [.int ((xm_i h7 233 (Int32.toNatClampNeg ((x1 * (8 : Int32)) + x2))) + (1 : Int32)), .int ((x1 * (8 : Int32)) + x2), .ref 233]) rfl rfl trivial ?_
    refine xa_i rfl (xkf (xs_k hS rfl rfl : xm_k h7 233 = (100, 320))) (xkn (xs_k hS rfl rfl : xm_k h7 233 = (100, 320))) hg9 (Nat.le_of_ble_eq_true rfl) hf (fun h10 e11 hf => ?_)
    have hS := xS_si hS e11
    exact xr_v (inj := xjv) rfl rfl hf hQ hS
  · refine xw_G (pc' := 17) (st' := [.ref 228]) rfl rfl trivial ?_
    refine xw_gr rfl (xkf (xs_k hS rfl rfl : xm_k h 228 = (2, 0))) (xs_r hS rfl) ?_
    refine xw_G (pc' := 21) (st' := [.int x1, .ref 231]) rfl rfl trivial ?_
    refine xw_G (pc' := 22) (st' := [.int x2, .int x1, .ref 231]) rfl rfl trivial ?_
    refine xa_i rfl (xkf (xs_k hS rfl rfl : xm_k h 231 = (100, 40))) (xkn (xs_k hS rfl rfl : xm_k h 231 = (100, 40))) hg1 (Nat.le_of_ble_eq_true rfl) hf (fun h12 e13 hf => ?_)
    have hS := xS_si hS e13
    refine xw_G (pc' := 24) (st' := [.ref 228]) rfl rfl trivial ?_
    refine xw_gr rfl (xkf (xs_k hS rfl rfl : xm_k h12 228 = (2, 0))) (xs_r hS rfl) ?_
    refine xw_G (pc' := 28) (st' := [.int x1, .ref 232]) rfl rfl trivial ?_
    refine xw_G (pc' := 29) (st' := [.int x1, .ref 232, .int x1, .ref 232]) rfl rfl ⟨rfl, rfl⟩ ?_
    refine xa_ld (t := 100) (τ := 0) (v := .int (xm_i h12 232 (Int32.toNatClampNeg x1))) rfl rfl (xkf (xs_k hS rfl rfl : xm_k h12 232 = (100, 40))) (xkn (xs_k hS rfl rfl : xm_k h12 232 = (100, 40))) hg1 rfl ?_
    refine xw_G (pc' := 31) (st' := [.int (1 : Int32), .int (xm_i h12 232 (Int32.toNatClampNeg x1)), .int x1, .ref 232]) rfl rfl trivial ?_
    refine xw_G (pc' := 32) (st' := [.int ((xm_i h12 232 (Int32.toNatClampNeg x1)) + (1 : Int32)), .int x1, .ref 232]) rfl rfl trivial ?_
    refine xa_i rfl (xkf (xs_k hS rfl rfl : xm_k h12 232 = (100, 40))) (xkn (xs_k hS rfl rfl : xm_k h12 232 = (100, 40))) hg1 (Nat.le_of_ble_eq_true rfl) hf (fun h14 e15 hf => ?_)
    have hS := xS_si hS e15
    refine xw_G (pc' := 34) (st' := [.ref 228]) rfl rfl trivial ?_
    refine xw_gr rfl (xkf (xs_k hS rfl rfl : xm_k h14 228 = (2, 0))) (xs_r hS rfl) ?_
    refine xw_G (pc' := 38) (st' := [.int x1, .ref 233]) rfl rfl trivial ?_
    refine xw_G (pc' := 40) (st' := [.int (8 : Int32), .int x1, .ref 233]) rfl rfl trivial ?_
    refine xw_G (pc' := 41) (st' := [.int (x1 * (8 : Int32)), .ref 233]) rfl rfl trivial ?_
    refine xw_G (pc' := 42) (st' := [.int x2, .int (x1 * (8 : Int32)), .ref 233]) rfl rfl trivial ?_
    refine xw_G (pc' := 43) (st' := [.int ((x1 * (8 : Int32)) + x2), .ref 233]) rfl rfl trivial ?_
    refine xw_G (pc' := 44) (st' := [.int ((x1 * (8 : Int32)) + x2), .ref 233, .int ((x1 * (8 : Int32)) + x2), .ref 233]) rfl rfl ⟨rfl, rfl⟩ ?_
    refine xg_e hf (fun hg16 hf => ?_)
    refine xa_ld (t := 100) (τ := 0) (v := .int (xm_i h14 233 (Int32.toNatClampNeg ((x1 * (8 : Int32)) + x2)))) rfl rfl (xkf (xs_k hS rfl rfl : xm_k h14 233 = (100, 320))) (xkn (xs_k hS rfl rfl : xm_k h14 233 = (100, 320))) hg16 rfl ?_
    refine xw_G (pc' := 46) (st' := [.int (1 : Int32), .int (xm_i h14 233 (Int32.toNatClampNeg ((x1 * (8 : Int32)) + x2))), .int ((x1 * (8 : Int32)) + x2), .ref 233]) rfl rfl trivial ?_
    refine xw_G (pc' := 47) (st' := [.int ((xm_i h14 233 (Int32.toNatClampNeg ((x1 * (8 : Int32)) + x2))) + (1 : Int32)), .int ((x1 * (8 : Int32)) + x2), .ref 233]) rfl rfl trivial ?_
    refine xa_i rfl (xkf (xs_k hS rfl rfl : xm_k h14 233 = (100, 320))) (xkn (xs_k hS rfl rfl : xm_k h14 233 = (100, 320))) hg16 (Nat.le_of_ble_eq_true rfl) hf (fun h17 e18 hf => ?_)
    have hS := xS_si hS e18
    exact xr_v (inj := xjv) rfl rfl hf hQ hS
def f_X10_attribute_34B (N : Nat) (ρ : Nat) (c1 : Int32) (c2 : Int32) (c4 : Int32) (rec : Int32 → xm_H → Option (Unit × xm_H)) (c5 : Int32) (h : xm_H) : Option (Unit × xm_H) := (if c5 < (xm_i h 201 2) then (if xin c5 400 then (if (xm_i h 211 (Int32.toNatClampNeg c5)) = c2 then (if (xm_i h 210 (Int32.toNatClampNeg c5)) < c4 then (rec (c5 + (1 : Int32)) h) else (xb (f_X1_share c1 (xm_i h 212 (Int32.toNatClampNeg c5)) h) fun v5 h6 => (rec (c5 + (1 : Int32)) h6))) else (rec (c5 + (1 : Int32)) h)) else none) else (some ((), h)))
def f_X10_attribute_34 (N : Nat) (ρ : Nat) (c1 : Int32) (c2 : Int32) (c4 : Int32) : Nat → Int32 → xm_H → Option (Unit × xm_H)
  | 0 => fun _ _ => none
  | n + 1 => fun c5 h => f_X10_attribute_34B N ρ c1 c2 c4 (f_X10_attribute_34 N ρ c1 c2 c4 n) c5 h
def f_X10_attribute (N : Nat) (ρ : Nat) (x1 : Int32) (x2 : Int32) (h : xm_H) : Option (Unit × xm_H) := (f_X10_attribute_34 N ρ x1 x2 ((xm_i h 201 0) - (xm_i h ρ 1)) N (0 : Int32) h)
theorem tl_X10_attribute_34 {δ : Nat} {N : Nat} {ρ : Nat} {c1 : Int32} {c2 : Int32} {c4 : Int32} {Q : xm_O → xm_H → Prop} {w : Unit × xm_H}  (hQ : xS ρ δ w.2 → Q (xjv w.1) w.2)  : ∀ (n : Nat) (c5 : Int32) (h : xm_H), xS ρ δ h → f_X10_attribute_34 N ρ c1 c2 c4 n c5 h = some w → xm_W (xm_Rn xX 1) xM_X10_attribute Q 34 [some (.ref 160), some (.int c1), some (.int c2), some (.ref 209), some (.int c4), some (.int c5)] [] h := by
  intro n
  induction n with
  | zero =>
    intro c5 h hS hf
    exact (xn_e hf).elim
  | succ n ih =>
    intro c5 h hS hf
    replace hf : f_X10_attribute_34B N ρ c1 c2 c4 (f_X10_attribute_34 N ρ c1 c2 c4 n) c5 h = some w := hf
    unfold f_X10_attribute_34B at hf
    refine xw_K (pc' := 36) (ls' := [some (.ref 160), some (.int c1), some (.int c2), some (.ref 209), some (.int c4), some (.int c5)]) (st' := [.int c5]) rfl rfl trivial ?_
    refine xw_G (pc' := 37) (st' := [.ref 160, .int c5]) rfl rfl trivial ?_
    refine xw_gr rfl (xkf (xs_k hS rfl rfl : xm_k h 160 = (0, 0))) (xs_r hS rfl) ?_
    refine xw_gr rfl (xkf (xs_k hS rfl rfl : xm_k h 182 = (3, 0))) (xs_r hS rfl) ?_
    refine xw_G (pc' := 46) (st' := [.int (xm_i h 201 2), .int c5]) rfl rfl (xkf (xs_k hS rfl rfl : xm_k h 201 = (8, 0))) ?_
    refine xj_ic_ge rfl hf (fun hc1 hf => ?_) (fun hc1 hf => ?_)
    · refine xw_G (pc' := 50) (st' := [.ref 209]) rfl rfl trivial ?_
      refine xw_gr rfl (xkf (xs_k hS rfl rfl : xm_k h 209 = (5, 0))) (xs_r hS rfl) ?_
      refine xw_G (pc' := 55) (st' := [.int c5, .ref 211]) rfl rfl trivial ?_
      refine xg_e hf (fun hg2 hf => ?_)
      refine xa_ld (t := 100) (τ := 0) (v := .int (xm_i h 211 (Int32.toNatClampNeg c5))) rfl rfl (xkf (xs_k hS rfl rfl : xm_k h 211 = (100, 400))) (xkn (xs_k hS rfl rfl : xm_k h 211 = (100, 400))) hg2 rfl ?_
      refine xw_G (pc' := 57) (st' := [.int c2, .int (xm_i h 211 (Int32.toNatClampNeg c5))]) rfl rfl trivial ?_
      refine xj_ic_ne rfl hf (fun hc3 hf => ?_) (fun hc3 hf => ?_)
      · refine xw_G (pc' := 61) (st' := [.ref 209]) rfl rfl trivial ?_
        refine xw_gr rfl (xkf (xs_k hS rfl rfl : xm_k h 209 = (5, 0))) (xs_r hS rfl) ?_
        refine xw_G (pc' := 66) (st' := [.int c5, .ref 210]) rfl rfl trivial ?_
        refine xa_ld (t := 100) (τ := 0) (v := .int (xm_i h 210 (Int32.toNatClampNeg c5))) rfl rfl (xkf (xs_k hS rfl rfl : xm_k h 210 = (100, 400))) (xkn (xs_k hS rfl rfl : xm_k h 210 = (100, 400))) hg2 rfl ?_
        refine xw_G (pc' := 69) (st' := [.int c4, .int (xm_i h 210 (Int32.toNatClampNeg c5))]) rfl rfl trivial ?_
        refine xj_ic_lt rfl hf (fun hc4 hf => ?_) (fun hc4 hf => ?_)
        · refine xw_G (pc' := 90) (ls' := [some (.ref 160), some (.int c1), some (.int c2), some (.ref 209), some (.int c4), some (.int (c5 + (1 : Int32)))]) (st' := []) rfl rfl (Nat.le_of_ble_eq_true rfl) ?_
          refine xw_G (pc' := 34) (st' := []) rfl rfl trivial ?_
          refine xw_M rfl rfl ?_
          exact ih _ _ hS hf
        · refine xw_G (pc' := 73) (st' := [.ref 160]) rfl rfl trivial ?_
          refine xw_gr rfl (xkf (xs_k hS rfl rfl : xm_k h 160 = (0, 0))) (xs_r hS rfl) ?_
          refine xw_G (pc' := 77) (st' := [.int c1, .ref 228]) rfl rfl trivial ?_
          refine xw_G (pc' := 78) (st' := [.ref 209, .int c1, .ref 228]) rfl rfl trivial ?_
          refine xw_gr rfl (xkf (xs_k hS rfl rfl : xm_k h 209 = (5, 0))) (xs_r hS rfl) ?_
          refine xw_G (pc' := 83) (st' := [.int c5, .ref 212, .int c1, .ref 228]) rfl rfl trivial ?_
          refine xa_ld (t := 100) (τ := 0) (v := .int (xm_i h 212 (Int32.toNatClampNeg c5))) rfl rfl (xkf (xs_k hS rfl rfl : xm_k h 212 = (100, 400))) (xkn (xs_k hS rfl rfl : xm_k h 212 = (100, 400))) hg2 rfl ?_
          refine xb_e hf (fun v5 h6 e7 hf => ?_)
          refine xw_V (v := none) rfl rfl (xkf (xs_k hS rfl rfl : xm_k h 228 = (2, 0))) (Nat.le_of_ble_eq_true rfl) (Nat.le_of_ble_eq_true rfl) (xm_Rn_le (Nat.le_of_ble_eq_true rfl) (t_X1_share  hS e7).1) ?_
          have hS := (t_X1_share  hS e7).2
          show xm_W _ _ _ 87 _ [] _
          refine xw_G (pc' := 90) (ls' := [some (.ref 160), some (.int c1), some (.int c2), some (.ref 209), some (.int c4), some (.int (c5 + (1 : Int32)))]) (st' := []) rfl rfl (Nat.le_of_ble_eq_true rfl) ?_
          refine xw_G (pc' := 34) (st' := []) rfl rfl trivial ?_
          refine xw_M rfl rfl ?_
          exact ih _ _ hS hf
      · refine xw_G (pc' := 90) (ls' := [some (.ref 160), some (.int c1), some (.int c2), some (.ref 209), some (.int c4), some (.int (c5 + (1 : Int32)))]) (st' := []) rfl rfl (Nat.le_of_ble_eq_true rfl) ?_
        refine xw_G (pc' := 34) (st' := []) rfl rfl trivial ?_
        refine xw_M rfl rfl ?_
        exact ih _ _ hS hf
    · exact xr_v (inj := xjv) rfl rfl hf hQ hS
theorem t_X10_attribute {N : Nat} {ρ : Nat} {δ : Nat} {x1 : Int32} {x2 : Int32} {h : xm_H} {w : Unit × xm_H}  (hS : xS ρ δ h) (hf : f_X10_attribute N ρ x1 x2 h = some w) : xm_Rn xX 2 102 [.ref 160, .int x1, .int x2] h (xjv w.1) w.2 ∧ xS ρ δ w.2 := by
  refine xt_mk (φ := fun h => xS ρ δ h) (M := xM_X10_attribute) (ls := [some (.ref 160), some (.int x1), some (.int x2), none, none, none]) rfl (Nat.le_of_ble_eq_true rfl) rfl (fun Q hQ => ?_)
  unfold f_X10_attribute at hf
  refine xw_G (pc' := 1) (st' := [.ref 160]) rfl rfl trivial ?_
  refine xw_gr rfl (xkf (xs_k hS rfl rfl : xm_k h 160 = (0, 0))) (xs_r hS rfl) ?_
  refine xw_gr rfl (xkf (xs_k hS rfl rfl : xm_k h 182 = (3, 0))) (xs_r hS rfl) ?_
  refine xw_G (pc' := 8) (ls' := [some (.ref 160), some (.int x1), some (.int x2), some (.ref 209), none, none]) (st' := []) rfl rfl (Nat.le_of_ble_eq_true rfl) ?_
  refine xw_G (pc' := 9) (st' := [.ref 160]) rfl rfl trivial ?_
  refine xw_gr rfl (xkf (xs_k hS rfl rfl : xm_k h 160 = (0, 0))) (xs_r hS rfl) ?_
  refine xw_gr rfl (xkf (xs_k hS rfl rfl : xm_k h 182 = (3, 0))) (xs_r hS rfl) ?_
  refine xw_G (pc' := 18) (st' := [.int (xm_i h 201 0)]) rfl rfl (xkf (xs_k hS rfl rfl : xm_k h 201 = (8, 0))) ?_
  refine xw_G (pc' := 19) (st' := [.ref 160, .int (xm_i h 201 0)]) rfl rfl trivial ?_
  refine xw_gr rfl (xkf (xs_k hS rfl rfl : xm_k h 160 = (0, 0))) (xs_r hS rfl) ?_
  refine xw_gr rfl (xkf (xs_k hS rfl rfl : xm_k h 182 = (3, 0))) (xs_rho hS) ?_
  refine xw_G (pc' := 28) (st' := [.int (xm_i h ρ 1), .int (xm_i h 201 0)]) rfl rfl (xkf (xsR0 hS (xs_R hS))) ?_
  refine xw_G (pc' := 29) (st' := [.int ((xm_i h 201 0) - (xm_i h ρ 1))]) rfl rfl trivial ?_
  refine xw_G (pc' := 31) (ls' := [some (.ref 160), some (.int x1), some (.int x2), some (.ref 209), some (.int ((xm_i h 201 0) - (xm_i h ρ 1))), none]) (st' := []) rfl rfl (Nat.le_of_ble_eq_true rfl) ?_
  refine xw_G (pc' := 32) (st' := [.int (0 : Int32)]) rfl rfl trivial ?_
  refine xw_G (pc' := 34) (ls' := [some (.ref 160), some (.int x1), some (.int x2), some (.ref 209), some (.int ((xm_i h 201 0) - (xm_i h ρ 1))), some (.int (0 : Int32))]) (st' := []) rfl rfl (Nat.le_of_ble_eq_true rfl) ?_
  refine xw_M rfl rfl ?_
  refine tl_X10_attribute_34  hQ  _ _ _ hS hf
def f_X10_convert (N : Nat) (ρ : Nat) (x1 : Int32) (x2 : Int32) (h : xm_H) : Option ((Int32 ⊕ Nat × Nat) × xm_H) := (xe (f_X10_requireUser x1 h) (fun v1 h2 => (xe (f_X10_requireRange x2 (1 : Int32) (9999 : Int32) h2) (fun v4 h5 => (if (xm_i h5 201 3) < (40 : Int32) then (xb (f_X3_remember h5) fun v8 h9 => (xl (xm_si h9 201 3 ((xm_i h9 201 3) + (1 : Int32))) fun h11 => (xb (f_X1_begin N (xm_i h5 201 3) x2 h11) fun v13 h14 => (xb (f_X10_attribute N ρ (xm_i h5 201 3) x1 h14) fun v16 h17 => (if xin (xm_i h5 201 3) 40 then (some (.inl (xm_i h17 231 (Int32.toNatClampNeg (xm_i h5 201 3))), h17)) else none))))) else (some (.inr (16, xm_n h5), xm_new h5 (16, 0))))) (fun q20 h21 => (some (.inr q20, h21))))) (fun q23 h24 => (some (.inr q23, h24))))
theorem t_X10_convert {N : Nat} {ρ : Nat} {δ : Nat} {x1 : Int32} {x2 : Int32} {h : xm_H} {w : (Int32 ⊕ Nat × Nat) × xm_H}  (hS : xS ρ δ h) (hf : f_X10_convert N ρ x1 x2 h = some w) : xm_Rn xX 3 101 [.ref 160, .int x1, .int x2] h (xti w.1) w.2 ∧ xS ρ δ w.2 := by
  refine xt_mk (φ := fun h => xS ρ δ h) (M := xM_X10_convert) (ls := [some (.ref 160), some (.int x1), some (.int x2), none]) rfl (Nat.le_of_ble_eq_true rfl) rfl (fun Q hQ => ?_)
  unfold f_X10_convert at hf
  refine xw_G (pc' := 1) (st' := [.int x1]) rfl rfl trivial ?_
  refine xe_e hf (fun v1 h2 e3 hf => ?_) (fun q23 h24 e3 hf => ?_)
  · refine xw_S (v := none) rfl (Nat.le_of_ble_eq_true rfl) (Nat.le_of_ble_eq_true rfl) (xm_Rn_le (Nat.le_of_ble_eq_true rfl) (t_X10_requireUser  hS e3).1) ?_
    have hS := (t_X10_requireUser  hS e3).2
    show xm_W _ _ _ 4 _ [] _
    refine xw_G (pc' := 5) (st' := [.int x2]) rfl rfl trivial ?_
    refine xw_G (pc' := 6) (st' := [.int (1 : Int32), .int x2]) rfl rfl trivial ?_
    refine xw_G (pc' := 9) (st' := [.int (9999 : Int32), .int (1 : Int32), .int x2]) rfl rfl trivial ?_
    refine xe_e hf (fun v4 h5 e6 hf => ?_) (fun q20 h21 e6 hf => ?_)
    · refine xw_S (v := none) rfl (Nat.le_of_ble_eq_true rfl) (Nat.le_of_ble_eq_true rfl) (xm_Rn_le (Nat.le_of_ble_eq_true rfl) (t_X10_requireRange  hS e6).1) ?_
      have hS := (t_X10_requireRange  hS e6).2
      show xm_W _ _ _ 12 _ [] _
      refine xw_G (pc' := 13) (st' := [.ref 160]) rfl rfl trivial ?_
      refine xw_gr rfl (xkf (xs_k hS rfl rfl : xm_k h5 160 = (0, 0))) (xs_r hS rfl) ?_
      refine xw_gr rfl (xkf (xs_k hS rfl rfl : xm_k h5 182 = (3, 0))) (xs_r hS rfl) ?_
      refine xw_G (pc' := 22) (st' := [.int (xm_i h5 201 3)]) rfl rfl (xkf (xs_k hS rfl rfl : xm_k h5 201 = (8, 0))) ?_
      refine xw_G (pc' := 23) (ls' := [some (.ref 160), some (.int x1), some (.int x2), some (.int (xm_i h5 201 3))]) (st' := []) rfl rfl (Nat.le_of_ble_eq_true rfl) ?_
      refine xw_G (pc' := 24) (st' := [.int (xm_i h5 201 3)]) rfl rfl trivial ?_
      refine xw_G (pc' := 26) (st' := [.int (40 : Int32), .int (xm_i h5 201 3)]) rfl rfl trivial ?_
      refine xj_ic_lt rfl hf (fun hc7 hf => ?_) (fun hc7 hf => ?_)
      · refine xw_G (pc' := 40) (st' := [.ref 160]) rfl rfl trivial ?_
        refine xw_gr rfl (xkf (xs_k hS rfl rfl : xm_k h5 160 = (0, 0))) (xs_r hS rfl) ?_
        refine xw_G (pc' := 44) (st' := [.ref 160, .ref 234]) rfl rfl trivial ?_
        refine xw_gr rfl (xkf (xs_k hS rfl rfl : xm_k h5 160 = (0, 0))) (xs_r hS rfl) ?_
        refine xw_gr rfl (xkf (xs_k hS rfl rfl : xm_k h5 182 = (3, 0))) (xs_r hS rfl) ?_
        refine xb_e hf (fun v8 h9 e10 hf => ?_)
        refine xw_V (v := none) rfl rfl (xkf (xs_k hS rfl rfl : xm_k h5 234 = (4, 0))) (Nat.le_of_ble_eq_true rfl) (Nat.le_of_ble_eq_true rfl) (xm_Rn_le (Nat.le_of_ble_eq_true rfl) (t_X3_remember  hS e10).1) ?_
        have hS := (t_X3_remember  hS e10).2
        show xm_W _ _ _ 53 _ [] _
        refine xw_G (pc' := 54) (st' := [.ref 160]) rfl rfl trivial ?_
        refine xw_gr rfl (xkf (xs_k hS rfl rfl : xm_k h9 160 = (0, 0))) (xs_r hS rfl) ?_
        refine xw_gr rfl (xkf (xs_k hS rfl rfl : xm_k h9 182 = (3, 0))) (xs_r hS rfl) ?_
        refine xw_G (pc' := 61) (st' := [.ref 201, .ref 201]) rfl rfl rfl ?_
        refine xw_G (pc' := 64) (st' := [.int (xm_i h9 201 3), .ref 201]) rfl rfl (xkf (xs_k hS rfl rfl : xm_k h9 201 = (8, 0))) ?_
        refine xw_G (pc' := 65) (st' := [.int (1 : Int32), .int (xm_i h9 201 3), .ref 201]) rfl rfl trivial ?_
        refine xw_G (pc' := 66) (st' := [.int ((xm_i h9 201 3) + (1 : Int32)), .ref 201]) rfl rfl trivial ?_
        refine xp_i rfl (xkf (xs_k hS rfl rfl : xm_k h9 201 = (8, 0))) (Nat.le_of_ble_eq_true rfl) hf (fun h11 e12 hf => ?_)
        have hS := xS_si hS e12
        refine xw_G (pc' := 70) (st' := [.ref 160]) rfl rfl trivial ?_
        refine xw_gr rfl (xkf (xs_k hS rfl rfl : xm_k h11 160 = (0, 0))) (xs_r hS rfl) ?_
        refine xw_G (pc' := 74) (st' := [.int (xm_i h5 201 3), .ref 228]) rfl rfl trivial ?_
        refine xw_G (pc' := 75) (st' := [.int x2, .int (xm_i h5 201 3), .ref 228]) rfl rfl trivial ?_
        refine xb_e hf (fun v13 h14 e15 hf => ?_)
        refine xw_V (v := none) rfl rfl (xkf (xs_k hS rfl rfl : xm_k h11 228 = (2, 0))) (Nat.le_of_ble_eq_true rfl) (Nat.le_of_ble_eq_true rfl) (xm_Rn_le (Nat.le_of_ble_eq_true rfl) (t_X1_begin  hS e15).1) ?_
        have hS := (t_X1_begin  hS e15).2
        show xm_W _ _ _ 78 _ [] _
        refine xw_G (pc' := 79) (st' := [.ref 160]) rfl rfl trivial ?_
        refine xw_G (pc' := 80) (st' := [.int (xm_i h5 201 3), .ref 160]) rfl rfl trivial ?_
        refine xw_G (pc' := 81) (st' := [.int x1, .int (xm_i h5 201 3), .ref 160]) rfl rfl trivial ?_
        refine xb_e hf (fun v16 h17 e18 hf => ?_)
        refine xw_V (v := none) rfl rfl (xkf (xs_k hS rfl rfl : xm_k h14 160 = (0, 0))) (Nat.le_of_ble_eq_true rfl) (Nat.le_of_ble_eq_true rfl) (xm_Rn_le (Nat.le_of_ble_eq_true rfl) (t_X10_attribute  hS e18).1) ?_
        have hS := (t_X10_attribute  hS e18).2
        show xm_W _ _ _ 84 _ [] _
        refine xw_G (pc' := 85) (st' := [.ref 160]) rfl rfl trivial ?_
        refine xw_gr rfl (xkf (xs_k hS rfl rfl : xm_k h17 160 = (0, 0))) (xs_r hS rfl) ?_
        refine xw_gr rfl (xkf (xs_k hS rfl rfl : xm_k h17 228 = (2, 0))) (xs_r hS rfl) ?_
        refine xw_G (pc' := 92) (st' := [.int (xm_i h5 201 3), .ref 231]) rfl rfl trivial ?_
        refine xg_e hf (fun hg19 hf => ?_)
        refine xa_ld (t := 100) (τ := 0) (v := .int (xm_i h17 231 (Int32.toNatClampNeg (xm_i h5 201 3)))) rfl rfl (xkf (xs_k hS rfl rfl : xm_k h17 231 = (100, 40))) (xkn (xs_k hS rfl rfl : xm_k h17 231 = (100, 40))) hg19 rfl ?_
        exact xr_i (inj := xti) rfl rfl rfl rfl hf hQ hS
      · exact xr_t (inj := xti) rfl (Nat.le_of_ble_eq_true rfl) rfl hf hQ (xS_new hS rfl)
    · refine xw_SX (x := q20) rfl (Nat.le_of_ble_eq_true rfl) (Nat.le_of_ble_eq_true rfl) (xm_Rn_le (Nat.le_of_ble_eq_true rfl) (t_X10_requireRange  hS e6).1) rfl ?_
      have hS := (t_X10_requireRange  hS e6).2
      exact xr_x (inj := xti) rfl hf hQ hS
  · refine xw_SX (x := q23) rfl (Nat.le_of_ble_eq_true rfl) (Nat.le_of_ble_eq_true rfl) (xm_Rn_le (Nat.le_of_ble_eq_true rfl) (t_X10_requireUser  hS e3).1) rfl ?_
    have hS := (t_X10_requireUser  hS e3).2
    exact xr_x (inj := xti) rfl hf hQ hS
def f_L_convert (N : Nat) (ρ : Nat) (x1 : Int32) (x2 : Int32) (h : xm_H) : Option (Int32 × xm_H) := (xe (f_X10_convert N ρ x1 x2 h) (fun v1 h2 => (xl (xm_sl h2 316 0 (Int32.toInt64 v1)) fun h4 => (some ((0 : Int32), h4)))) (fun q6 h7 => (if (q6).1 = 15 then (some ((1 : Int32), h7)) else (if (q6).1 = 16 then (some ((2 : Int32), h7)) else none))))
theorem t_L_convert {N : Nat} {ρ : Nat} {δ : Nat} {x1 : Int32} {x2 : Int32} {h : xm_H} {w : Int32 × xm_H}  (hS : xS ρ δ h) (hf : f_L_convert N ρ x1 x2 h = some w) : xm_Rn xX 4 347 [.ref 160, .int x1, .int x2, .ref 316] h (xji w.1) w.2 ∧ xS ρ δ w.2 := by
  refine xt_mk (φ := fun h => xS ρ δ h) (M := xM_L_convert) (ls := [some (.ref 160), some (.int x1), some (.int x2), some (.ref 316), none]) rfl (Nat.le_of_ble_eq_true rfl) rfl (fun Q hQ => ?_)
  unfold f_L_convert at hf
  refine xw_G (pc' := 1) (st' := [.ref 316]) rfl rfl trivial ?_
  refine xw_G (pc' := 2) (st' := [.int (0 : Int32), .ref 316]) rfl rfl trivial ?_
  refine xw_G (pc' := 3) (st' := [.ref 160, .int (0 : Int32), .ref 316]) rfl rfl trivial ?_
  refine xw_G (pc' := 4) (st' := [.int x1, .ref 160, .int (0 : Int32), .ref 316]) rfl rfl trivial ?_
  refine xw_G (pc' := 5) (st' := [.int x2, .int x1, .ref 160, .int (0 : Int32), .ref 316]) rfl rfl trivial ?_
  refine xe_e hf (fun v1 h2 e3 hf => ?_) (fun q6 h7 e3 hf => ?_)
  · refine xw_V (v := some (.int v1)) rfl rfl (xkf (xs_k hS rfl rfl : xm_k h 160 = (0, 0))) (Nat.le_of_ble_eq_true rfl) (Nat.le_of_ble_eq_true rfl) (xm_Rn_le (Nat.le_of_ble_eq_true rfl) (t_X10_convert  hS e3).1) ?_
    have hS := (t_X10_convert  hS e3).2
    show xm_W _ _ _ 8 _ [.int v1, .int (0 : Int32), .ref 316] _
    refine xw_G (pc' := 9) (st' := [.long (Int32.toInt64 v1), .int (0 : Int32), .ref 316]) rfl rfl trivial ?_
    refine xa_l rfl (xkf (xs_k hS rfl rfl : xm_k h2 316 = (104, 1))) (xkn (xs_k hS rfl rfl : xm_k h2 316 = (104, 1))) (by decide : xin (0 : Int32) 1) (Nat.le_of_ble_eq_true rfl) hf (fun h4 e5 hf => ?_)
    have hS := xS_sl hS e5
    refine xw_G (pc' := 21) (st' := []) rfl rfl trivial ?_
    refine xw_G (pc' := 22) (st' := [.int (0 : Int32)]) rfl rfl trivial ?_
    exact xr_i (inj := xji) rfl rfl rfl rfl hf hQ hS
  · by_cases hc8 : (q6).1 = 15
    · rw [if_pos hc8] at hf
      refine xw_VH (x := q6) (p := 13) rfl rfl (xkf (xs_k hS rfl rfl : xm_k h 160 = (0, 0))) (Nat.le_of_ble_eq_true rfl) (Nat.le_of_ble_eq_true rfl) (xm_Rn_le (Nat.le_of_ble_eq_true rfl) (t_X10_convert  hS e3).1) (by rw [hc8]; rfl) ?_
      have hS := (t_X10_convert  hS e3).2
      refine xw_G (pc' := 15) (ls' := [some (.ref 160), some (.int x1), some (.int x2), some (.ref 316), some (.ref ((q6).2))]) (st' := []) rfl rfl (Nat.le_of_ble_eq_true rfl) ?_
      refine xw_G (pc' := 16) (st' := [.int (1 : Int32)]) rfl rfl trivial ?_
      exact xr_i (inj := xji) rfl rfl rfl rfl hf hQ hS
    · rw [if_neg hc8] at hf
      by_cases hc8 : (q6).1 = 16
      · rw [if_pos hc8] at hf
        refine xw_VH (x := q6) (p := 17) rfl rfl (xkf (xs_k hS rfl rfl : xm_k h 160 = (0, 0))) (Nat.le_of_ble_eq_true rfl) (Nat.le_of_ble_eq_true rfl) (xm_Rn_le (Nat.le_of_ble_eq_true rfl) (t_X10_convert  hS e3).1) (by rw [hc8]; rfl) ?_
        have hS := (t_X10_convert  hS e3).2
        refine xw_G (pc' := 19) (ls' := [some (.ref 160), some (.int x1), some (.int x2), some (.ref 316), some (.ref ((q6).2))]) (st' := []) rfl rfl (Nat.le_of_ble_eq_true rfl) ?_
        refine xw_G (pc' := 20) (st' := [.int (2 : Int32)]) rfl rfl trivial ?_
        exact xr_i (inj := xji) rfl rfl rfl rfl hf hQ hS
      · rw [if_neg hc8] at hf
        exact (xn_e hf).elim
def f_X11_conversionAt (x1 : Int32) (x2 : Int32) (h : xm_H) : Option (Int32 × xm_H) := (if xin (((2057 : Int32) + ((4 : Int32) * x1)) + x2) 2217 then (some (xm_i h 303 (Int32.toNatClampNeg (((2057 : Int32) + ((4 : Int32) * x1)) + x2)), h)) else none)
theorem t_X11_conversionAt {ρ : Nat} {δ : Nat} {x1 : Int32} {x2 : Int32} {h : xm_H} {w : Int32 × xm_H}  (hS : xS ρ δ h) (hf : f_X11_conversionAt x1 x2 h = some w) : xm_Rn xX 1 216 [.ref 302, .int x1, .int x2] h (xji w.1) w.2 ∧ xS ρ δ w.2 := by
  refine xt_mk (φ := fun h => xS ρ δ h) (M := xM_X11_conversionAt) (ls := [some (.ref 302), some (.int x1), some (.int x2)]) rfl (Nat.le_of_ble_eq_true rfl) rfl (fun Q hQ => ?_)
  unfold f_X11_conversionAt at hf
  refine xw_G (pc' := 1) (st' := [.ref 302]) rfl rfl trivial ?_
  refine xw_gr rfl (xkf (xs_k hS rfl rfl : xm_k h 302 = (11, 0))) (xs_r hS rfl) ?_
  refine xw_G (pc' := 7) (st' := [.int (2057 : Int32), .ref 303]) rfl rfl trivial ?_
  refine xw_G (pc' := 8) (st' := [.int (4 : Int32), .int (2057 : Int32), .ref 303]) rfl rfl trivial ?_
  refine xw_G (pc' := 9) (st' := [.int x1, .int (4 : Int32), .int (2057 : Int32), .ref 303]) rfl rfl trivial ?_
  refine xw_G (pc' := 10) (st' := [.int ((4 : Int32) * x1), .int (2057 : Int32), .ref 303]) rfl rfl trivial ?_
  refine xw_G (pc' := 11) (st' := [.int ((2057 : Int32) + ((4 : Int32) * x1)), .ref 303]) rfl rfl trivial ?_
  refine xw_G (pc' := 12) (st' := [.int x2, .int ((2057 : Int32) + ((4 : Int32) * x1)), .ref 303]) rfl rfl trivial ?_
  refine xw_G (pc' := 13) (st' := [.int (((2057 : Int32) + ((4 : Int32) * x1)) + x2), .ref 303]) rfl rfl trivial ?_
  refine xg_e hf (fun hg1 hf => ?_)
  refine xa_ld (t := 100) (τ := 0) (v := .int (xm_i h 303 (Int32.toNatClampNeg (((2057 : Int32) + ((4 : Int32) * x1)) + x2)))) rfl rfl (xkf (xs_k hS rfl rfl : xm_k h 303 = (100, 2217))) (xkn (xs_k hS rfl rfl : xm_k h 303 = (100, 2217))) hg1 rfl ?_
  exact xr_i (inj := xji) rfl rfl rfl rfl hf hQ hS
def f_X11_leads (x1 : Int32) (x2 : Int32) (h : xm_H) : Option (Int32 × xm_H) := (xb (f_X11_conversionAt x2 (3 : Int32) h) fun v1 h2 => (if x1 < v1 then (xb (f_X11_impressionAt x1 (1 : Int32) h2) fun v5 h6 => (xb (f_X11_conversionAt x2 (1 : Int32) h6) fun v8 h9 => (if v5 = v8 then (xb (f_X11_impressionAt x1 (0 : Int32) h9) fun v12 h13 => (xb (f_X11_conversionAt x2 (0 : Int32) h13) fun v15 h16 => (if v12 < (v15 - (xm_i h16 308 1)) then (some ((0 : Int32), h16)) else (some ((1 : Int32), h16))))) else (some ((0 : Int32), h9))))) else (some ((0 : Int32), h2))))
theorem t_X11_leads {ρ : Nat} {δ : Nat} {x1 : Int32} {x2 : Int32} {h : xm_H} {w : Int32 × xm_H}  (hS : xS ρ δ h) (hf : f_X11_leads x1 x2 h = some w) : xm_Rn xX 2 217 [.ref 302, .int x1, .int x2] h (xji w.1) w.2 ∧ xS ρ δ w.2 := by
  refine xt_mk (φ := fun h => xS ρ δ h) (M := xM_X11_leads) (ls := [some (.ref 302), some (.int x1), some (.int x2), none]) rfl (Nat.le_of_ble_eq_true rfl) rfl (fun Q hQ => ?_)
  unfold f_X11_leads at hf
  refine xw_G (pc' := 1) (st' := [.int x1]) rfl rfl trivial ?_
  refine xw_G (pc' := 2) (st' := [.ref 302, .int x1]) rfl rfl trivial ?_
  refine xw_G (pc' := 3) (st' := [.int x2, .ref 302, .int x1]) rfl rfl trivial ?_
  refine xw_G (pc' := 4) (st' := [.int (3 : Int32), .int x2, .ref 302, .int x1]) rfl rfl trivial ?_
  refine xb_e hf (fun v1 h2 e3 hf => ?_)
  refine xw_V (v := some (.int v1)) rfl rfl (xkf (xs_k hS rfl rfl : xm_k h 302 = (11, 0))) (Nat.le_of_ble_eq_true rfl) (Nat.le_of_ble_eq_true rfl) (xm_Rn_le (Nat.le_of_ble_eq_true rfl) (t_X11_conversionAt  hS e3).1) ?_
  have hS := (t_X11_conversionAt  hS e3).2
  show xm_W _ _ _ 7 _ [.int v1, .int x1] _
  refine xj_ic_ge rfl hf (fun hc4 hf => ?_) (fun hc4 hf => ?_)
  · refine xw_G (pc' := 11) (st' := [.ref 302]) rfl rfl trivial ?_
    refine xw_G (pc' := 12) (st' := [.int x1, .ref 302]) rfl rfl trivial ?_
    refine xw_G (pc' := 13) (st' := [.int (1 : Int32), .int x1, .ref 302]) rfl rfl trivial ?_
    refine xb_e hf (fun v5 h6 e7 hf => ?_)
    refine xw_V (v := some (.int v5)) rfl rfl (xkf (xs_k hS rfl rfl : xm_k h2 302 = (11, 0))) (Nat.le_of_ble_eq_true rfl) (Nat.le_of_ble_eq_true rfl) (xm_Rn_le (Nat.le_of_ble_eq_true rfl) (t_X11_impressionAt  hS e7).1) ?_
    have hS := (t_X11_impressionAt  hS e7).2
    show xm_W _ _ _ 16 _ [.int v5] _
    refine xw_G (pc' := 17) (st' := [.ref 302, .int v5]) rfl rfl trivial ?_
    refine xw_G (pc' := 18) (st' := [.int x2, .ref 302, .int v5]) rfl rfl trivial ?_
    refine xw_G (pc' := 19) (st' := [.int (1 : Int32), .int x2, .ref 302, .int v5]) rfl rfl trivial ?_
    refine xb_e hf (fun v8 h9 e10 hf => ?_)
    refine xw_V (v := some (.int v8)) rfl rfl (xkf (xs_k hS rfl rfl : xm_k h6 302 = (11, 0))) (Nat.le_of_ble_eq_true rfl) (Nat.le_of_ble_eq_true rfl) (xm_Rn_le (Nat.le_of_ble_eq_true rfl) (t_X11_conversionAt  hS e10).1) ?_
    have hS := (t_X11_conversionAt  hS e10).2
    show xm_W _ _ _ 22 _ [.int v8, .int v5] _
    refine xj_ic_ne rfl hf (fun hc11 hf => ?_) (fun hc11 hf => ?_)
    · refine xw_G (pc' := 26) (st' := [.int (1 : Int32)]) rfl rfl trivial ?_
      refine xw_G (pc' := 30) (st' := [.int (1 : Int32)]) rfl rfl trivial ?_
      refine xw_G (pc' := 31) (ls' := [some (.ref 302), some (.int x1), some (.int x2), some (.int (1 : Int32))]) (st' := []) rfl rfl (Nat.le_of_ble_eq_true rfl) ?_
      refine xw_G (pc' := 32) (st' := [.int (1 : Int32)]) rfl rfl trivial ?_
      refine xw_G (pc' := 35) (st' := []) rfl rfl trivial ?_
      refine xw_G (pc' := 36) (st' := [.ref 302]) rfl rfl trivial ?_
      refine xw_G (pc' := 37) (st' := [.int x1, .ref 302]) rfl rfl trivial ?_
      refine xw_G (pc' := 38) (st' := [.int (0 : Int32), .int x1, .ref 302]) rfl rfl trivial ?_
      refine xb_e hf (fun v12 h13 e14 hf => ?_)
      refine xw_V (v := some (.int v12)) rfl rfl (xkf (xs_k hS rfl rfl : xm_k h9 302 = (11, 0))) (Nat.le_of_ble_eq_true rfl) (Nat.le_of_ble_eq_true rfl) (xm_Rn_le (Nat.le_of_ble_eq_true rfl) (t_X11_impressionAt  hS e14).1) ?_
      have hS := (t_X11_impressionAt  hS e14).2
      show xm_W _ _ _ 41 _ [.int v12] _
      refine xw_G (pc' := 42) (st' := [.ref 302, .int v12]) rfl rfl trivial ?_
      refine xw_G (pc' := 43) (st' := [.int x2, .ref 302, .int v12]) rfl rfl trivial ?_
      refine xw_G (pc' := 44) (st' := [.int (0 : Int32), .int x2, .ref 302, .int v12]) rfl rfl trivial ?_
      refine xb_e hf (fun v15 h16 e17 hf => ?_)
      refine xw_V (v := some (.int v15)) rfl rfl (xkf (xs_k hS rfl rfl : xm_k h13 302 = (11, 0))) (Nat.le_of_ble_eq_true rfl) (Nat.le_of_ble_eq_true rfl) (xm_Rn_le (Nat.le_of_ble_eq_true rfl) (t_X11_conversionAt  hS e17).1) ?_
      have hS := (t_X11_conversionAt  hS e17).2
      show xm_W _ _ _ 47 _ [.int v15, .int v12] _
      refine xw_G (pc' := 48) (st' := [.ref 302, .int v15, .int v12]) rfl rfl trivial ?_
      refine xw_gr rfl (xkf (xs_k hS rfl rfl : xm_k h16 302 = (11, 0))) (xs_r hS rfl) ?_
      refine xw_G (pc' := 52) (st' := [.int (1 : Int32), .ref 308, .int v15, .int v12]) rfl rfl trivial ?_
      refine xa_ld (t := 100) (τ := 0) (v := .int (xm_i h16 308 1)) rfl rfl (xkf (xs_k hS rfl rfl : xm_k h16 308 = (100, 72))) (xkn (xs_k hS rfl rfl : xm_k h16 308 = (100, 72))) (by decide : xin (1 : Int32) 72) rfl ?_
      refine xw_G (pc' := 54) (st' := [.int (v15 - (xm_i h16 308 1)), .int v12]) rfl rfl trivial ?_
      refine xj_ic_lt rfl hf (fun hc18 hf => ?_) (fun hc18 hf => ?_)
      · refine xw_G (pc' := 62) (st' := [.int (0 : Int32)]) rfl rfl trivial ?_
        exact xr_i (inj := xji) rfl rfl rfl rfl hf hQ hS
      · refine xw_G (pc' := 58) (st' := [.int (1 : Int32)]) rfl rfl trivial ?_
        refine xw_G (pc' := 62) (st' := [.int (1 : Int32)]) rfl rfl trivial ?_
        exact xr_i (inj := xji) rfl rfl rfl rfl hf hQ hS
    · refine xw_G (pc' := 30) (st' := [.int (0 : Int32)]) rfl rfl trivial ?_
      refine xw_G (pc' := 31) (ls' := [some (.ref 302), some (.int x1), some (.int x2), some (.int (0 : Int32))]) (st' := []) rfl rfl (Nat.le_of_ble_eq_true rfl) ?_
      refine xw_G (pc' := 32) (st' := [.int (0 : Int32)]) rfl rfl trivial ?_
      refine xw_G (pc' := 61) (st' := []) rfl rfl trivial ?_
      refine xw_G (pc' := 62) (st' := [.int (0 : Int32)]) rfl rfl trivial ?_
      exact xr_i (inj := xji) rfl rfl rfl rfl hf hQ hS
  · refine xw_G (pc' := 30) (st' := [.int (0 : Int32)]) rfl rfl trivial ?_
    refine xw_G (pc' := 31) (ls' := [some (.ref 302), some (.int x1), some (.int x2), some (.int (0 : Int32))]) (st' := []) rfl rfl (Nat.le_of_ble_eq_true rfl) ?_
    refine xw_G (pc' := 32) (st' := [.int (0 : Int32)]) rfl rfl trivial ?_
    refine xw_G (pc' := 61) (st' := []) rfl rfl trivial ?_
    refine xw_G (pc' := 62) (st' := [.int (0 : Int32)]) rfl rfl trivial ?_
    exact xr_i (inj := xji) rfl rfl rfl rfl hf hQ hS
def f_X11_lastOf_9B (N : Nat) (c1 : Int32) (rec : Int32 → xm_H → Option (Int32 × xm_H)) (c2 : Int32) (h : xm_H) : Option (Int32 × xm_H) := (if c2 < 0 then (some ((-1 : Int32), h)) else (xb (f_X11_leads c2 c1 h) fun v2 h3 => (if v2 = 0 then (rec (c2 + (-1 : Int32)) h3) else (some (c2, h3)))))
def f_X11_lastOf_9 (N : Nat) (c1 : Int32) : Nat → Int32 → xm_H → Option (Int32 × xm_H)
  | 0 => fun _ _ => none
  | n + 1 => fun c2 h => f_X11_lastOf_9B N c1 (f_X11_lastOf_9 N c1 n) c2 h
def f_X11_lastOf (N : Nat) (x1 : Int32) (h : xm_H) : Option (Int32 × xm_H) := (f_X11_lastOf_9 N x1 N ((xm_i h 303 1) - (1 : Int32)) h)
theorem tl_X11_lastOf_9 {ρ : Nat} {δ : Nat} {N : Nat} {c1 : Int32} {Q : xm_O → xm_H → Prop} {w : Int32 × xm_H}  (hQ : xS ρ δ w.2 → Q (xji w.1) w.2)  : ∀ (n : Nat) (c2 : Int32) (h : xm_H), xS ρ δ h → f_X11_lastOf_9 N c1 n c2 h = some w → xm_W (xm_Rn xX 2) xM_X11_lastOf Q 9 [some (.ref 302), some (.int c1), some (.int c2)] [] h := by
  intro n
  induction n with
  | zero =>
    intro c2 h hS hf
    exact (xn_e hf).elim
  | succ n ih =>
    intro c2 h hS hf
    replace hf : f_X11_lastOf_9B N c1 (f_X11_lastOf_9 N c1 n) c2 h = some w := hf
    unfold f_X11_lastOf_9B at hf
    refine xw_K (pc' := 10) (ls' := [some (.ref 302), some (.int c1), some (.int c2)]) (st' := [.int c2]) rfl rfl trivial ?_
    refine xj_if_lt rfl hf (fun hc1 hf => ?_) (fun hc1 hf => ?_)
    · refine xw_G (pc' := 31) (st' := [.int (-1 : Int32)]) rfl rfl trivial ?_
      exact xr_i (inj := xji) rfl rfl rfl rfl hf hQ hS
    · refine xw_G (pc' := 14) (st' := [.ref 302]) rfl rfl trivial ?_
      refine xw_G (pc' := 15) (st' := [.int c2, .ref 302]) rfl rfl trivial ?_
      refine xw_G (pc' := 16) (st' := [.int c1, .int c2, .ref 302]) rfl rfl trivial ?_
      refine xb_e hf (fun v2 h3 e4 hf => ?_)
      refine xw_V (v := some (.int v2)) rfl rfl (xkf (xs_k hS rfl rfl : xm_k h 302 = (11, 0))) (Nat.le_of_ble_eq_true rfl) (Nat.le_of_ble_eq_true rfl) (xm_Rn_le (Nat.le_of_ble_eq_true rfl) (t_X11_leads  hS e4).1) ?_
      have hS := (t_X11_leads  hS e4).2
      show xm_W _ _ _ 19 _ [.int v2] _
      refine xj_if_eq rfl hf (fun hc5 hf => ?_) (fun hc5 hf => ?_)
      · refine xw_G (pc' := 27) (ls' := [some (.ref 302), some (.int c1), some (.int (c2 + (-1 : Int32)))]) (st' := []) rfl rfl (Nat.le_of_ble_eq_true rfl) ?_
        refine xw_G (pc' := 9) (st' := []) rfl rfl trivial ?_
        refine xw_M rfl rfl ?_
        exact ih _ _ hS hf
      · refine xw_G (pc' := 23) (st' := [.int c2]) rfl rfl trivial ?_
        exact xr_i (inj := xji) rfl rfl rfl rfl hf hQ hS
theorem t_X11_lastOf {N : Nat} {ρ : Nat} {δ : Nat} {x1 : Int32} {h : xm_H} {w : Int32 × xm_H}  (hS : xS ρ δ h) (hf : f_X11_lastOf N x1 h = some w) : xm_Rn xX 3 218 [.ref 302, .int x1] h (xji w.1) w.2 ∧ xS ρ δ w.2 := by
  refine xt_mk (φ := fun h => xS ρ δ h) (M := xM_X11_lastOf) (ls := [some (.ref 302), some (.int x1), none]) rfl (Nat.le_of_ble_eq_true rfl) rfl (fun Q hQ => ?_)
  unfold f_X11_lastOf at hf
  refine xw_G (pc' := 1) (st' := [.ref 302]) rfl rfl trivial ?_
  refine xw_gr rfl (xkf (xs_k hS rfl rfl : xm_k h 302 = (11, 0))) (xs_r hS rfl) ?_
  refine xw_G (pc' := 5) (st' := [.int (1 : Int32), .ref 303]) rfl rfl trivial ?_
  refine xa_ld (t := 100) (τ := 0) (v := .int (xm_i h 303 1)) rfl rfl (xkf (xs_k hS rfl rfl : xm_k h 303 = (100, 2217))) (xkn (xs_k hS rfl rfl : xm_k h 303 = (100, 2217))) (by decide : xin (1 : Int32) 2217) rfl ?_
  refine xw_G (pc' := 7) (st' := [.int (1 : Int32), .int (xm_i h 303 1)]) rfl rfl trivial ?_
  refine xw_G (pc' := 8) (st' := [.int ((xm_i h 303 1) - (1 : Int32))]) rfl rfl trivial ?_
  refine xw_G (pc' := 9) (ls' := [some (.ref 302), some (.int x1), some (.int ((xm_i h 303 1) - (1 : Int32)))]) (st' := []) rfl rfl (Nat.le_of_ble_eq_true rfl) ?_
  refine xw_M rfl rfl ?_
  refine tl_X11_lastOf_9  hQ  _ _ _ hS hf
def f_X11_campaignAt (x1 : Int32) (h : xm_H) : Option (Int32 × xm_H) := (if x1 = (-1 : Int32) then (some ((-1 : Int32), h)) else (xb (f_X11_impressionAt x1 (2 : Int32) h) fun v2 h3 => (some (v2, h3))))
theorem t_X11_campaignAt {ρ : Nat} {δ : Nat} {x1 : Int32} {h : xm_H} {w : Int32 × xm_H}  (hS : xS ρ δ h) (hf : f_X11_campaignAt x1 h = some w) : xm_Rn xX 2 220 [.ref 302, .int x1] h (xji w.1) w.2 ∧ xS ρ δ w.2 := by
  refine xt_mk (φ := fun h => xS ρ δ h) (M := xM_X11_campaignAt) (ls := [some (.ref 302), some (.int x1)]) rfl (Nat.le_of_ble_eq_true rfl) rfl (fun Q hQ => ?_)
  unfold f_X11_campaignAt at hf
  refine xw_G (pc' := 1) (st' := [.int x1]) rfl rfl trivial ?_
  refine xw_G (pc' := 2) (st' := [.int (-1 : Int32), .int x1]) rfl rfl trivial ?_
  refine xj_ic_ne rfl hf (fun hc1 hf => ?_) (fun hc1 hf => ?_)
  · refine xw_G (pc' := 6) (st' := [.int (-1 : Int32)]) rfl rfl trivial ?_
    refine xw_G (pc' := 15) (st' := [.int (-1 : Int32)]) rfl rfl trivial ?_
    exact xr_i (inj := xji) rfl rfl rfl rfl hf hQ hS
  · refine xw_G (pc' := 10) (st' := [.ref 302]) rfl rfl trivial ?_
    refine xw_G (pc' := 11) (st' := [.int x1, .ref 302]) rfl rfl trivial ?_
    refine xw_G (pc' := 12) (st' := [.int (2 : Int32), .int x1, .ref 302]) rfl rfl trivial ?_
    refine xb_e hf (fun v2 h3 e4 hf => ?_)
    refine xw_V (v := some (.int v2)) rfl rfl (xkf (xs_k hS rfl rfl : xm_k h 302 = (11, 0))) (Nat.le_of_ble_eq_true rfl) (Nat.le_of_ble_eq_true rfl) (xm_Rn_le (Nat.le_of_ble_eq_true rfl) (t_X11_impressionAt  hS e4).1) ?_
    have hS := (t_X11_impressionAt  hS e4).2
    show xm_W _ _ _ 15 _ [.int v2] _
    exact xr_i (inj := xji) rfl rfl rfl rfl hf hQ hS
def f_X11_convert (N : Nat) (x1 : Int32) (x2 : Int32) (h : xm_H) : Option (Int32 × xm_H) := (xb (f_X11_isUser x1 h) fun v1 h2 => (if v1 = 0 then (if (xm_i h2 303 2) < (40 : Int32) then (xb (f_X11_good_ (0 : Int32) (1 : Int32) h2) fun v6 h7 => (if v6 = 0 then (some ((0 : Int32), h7)) else (xb (f_X11_remember N h7) fun v10 h11 => (if xin ((2057 : Int32) + ((4 : Int32) * (xm_i h11 303 2))) 2217 then (xl (xm_si h11 303 (Int32.toNatClampNeg ((2057 : Int32) + ((4 : Int32) * (xm_i h11 303 2)))) (xm_i h11 303 0)) fun h14 => (if xin (((2057 : Int32) + ((4 : Int32) * (xm_i h11 303 2))) + (1 : Int32)) 2217 then (xl (xm_si h14 303 (Int32.toNatClampNeg (((2057 : Int32) + ((4 : Int32) * (xm_i h11 303 2))) + (1 : Int32))) x1) fun h17 => (if xin (((2057 : Int32) + ((4 : Int32) * (xm_i h11 303 2))) + (2 : Int32)) 2217 then (xl (xm_si h17 303 (Int32.toNatClampNeg (((2057 : Int32) + ((4 : Int32) * (xm_i h11 303 2))) + (2 : Int32))) x2) fun h20 => (if xin (((2057 : Int32) + ((4 : Int32) * (xm_i h11 303 2))) + (3 : Int32)) 2217 then (xl (xm_si h20 303 (Int32.toNatClampNeg (((2057 : Int32) + ((4 : Int32) * (xm_i h11 303 2))) + (3 : Int32))) (xm_i h20 303 1)) fun h23 => (xl (xm_si h23 303 2 ((xm_i h23 303 2) + (1 : Int32))) fun h25 => (xb (f_X11_lastOf N ((xm_i h25 303 2) - (1 : Int32)) h25) fun v27 h28 => (xb (f_X11_campaignAt v27 h28) fun v30 h31 => (some (v30, h31)))))) else none)) else none)) else none)) else none)))) else (xb (f_X11_good_ (0 : Int32) (0 : Int32) h2) fun v33 h34 => (if v33 = 0 then (some ((0 : Int32), h34)) else (xb (f_X11_remember N h34) fun v37 h38 => (if xin ((2057 : Int32) + ((4 : Int32) * (xm_i h38 303 2))) 2217 then (xl (xm_si h38 303 (Int32.toNatClampNeg ((2057 : Int32) + ((4 : Int32) * (xm_i h38 303 2)))) (xm_i h38 303 0)) fun h41 => (if xin (((2057 : Int32) + ((4 : Int32) * (xm_i h38 303 2))) + (1 : Int32)) 2217 then (xl (xm_si h41 303 (Int32.toNatClampNeg (((2057 : Int32) + ((4 : Int32) * (xm_i h38 303 2))) + (1 : Int32))) x1) fun h44 => (if xin (((2057 : Int32) + ((4 : Int32) * (xm_i h38 303 2))) + (2 : Int32)) 2217 then (xl (xm_si h44 303 (Int32.toNatClampNeg (((2057 : Int32) + ((4 : Int32) * (xm_i h38 303 2))) + (2 : Int32))) x2) fun h47 => (if xin (((2057 : Int32) + ((4 : Int32) * (xm_i h38 303 2))) + (3 : Int32)) 2217 then (xl (xm_si h47 303 (Int32.toNatClampNeg (((2057 : Int32) + ((4 : Int32) * (xm_i h38 303 2))) + (3 : Int32))) (xm_i h47 303 1)) fun h50 => (xl (xm_si h50 303 2 ((xm_i h50 303 2) + (1 : Int32))) fun h52 => (xb (f_X11_lastOf N ((xm_i h52 303 2) - (1 : Int32)) h52) fun v54 h55 => (xb (f_X11_campaignAt v54 h55) fun v57 h58 => (some (v57, h58)))))) else none)) else none)) else none)) else none))))) else (xb (f_X11_between (Int32.toInt64 x2) (1 : Int64) (9999 : Int64) h2) fun v60 h61 => (if v60 = 0 then (if (xm_i h61 303 2) < (40 : Int32) then (xb (f_X11_good_ (0 : Int32) (1 : Int32) h61) fun v65 h66 => (if v65 = 0 then (some ((0 : Int32), h66)) else (xb (f_X11_remember N h66) fun v69 h70 => (if xin ((2057 : Int32) + ((4 : Int32) * (xm_i h70 303 2))) 2217 then (xl (xm_si h70 303 (Int32.toNatClampNeg ((2057 : Int32) + ((4 : Int32) * (xm_i h70 303 2)))) (xm_i h70 303 0)) fun h73 => (if xin (((2057 : Int32) + ((4 : Int32) * (xm_i h70 303 2))) + (1 : Int32)) 2217 then (xl (xm_si h73 303 (Int32.toNatClampNeg (((2057 : Int32) + ((4 : Int32) * (xm_i h70 303 2))) + (1 : Int32))) x1) fun h76 => (if xin (((2057 : Int32) + ((4 : Int32) * (xm_i h70 303 2))) + (2 : Int32)) 2217 then (xl (xm_si h76 303 (Int32.toNatClampNeg (((2057 : Int32) + ((4 : Int32) * (xm_i h70 303 2))) + (2 : Int32))) x2) fun h79 => (if xin (((2057 : Int32) + ((4 : Int32) * (xm_i h70 303 2))) + (3 : Int32)) 2217 then (xl (xm_si h79 303 (Int32.toNatClampNeg (((2057 : Int32) + ((4 : Int32) * (xm_i h70 303 2))) + (3 : Int32))) (xm_i h79 303 1)) fun h82 => (xl (xm_si h82 303 2 ((xm_i h82 303 2) + (1 : Int32))) fun h84 => (xb (f_X11_lastOf N ((xm_i h84 303 2) - (1 : Int32)) h84) fun v86 h87 => (xb (f_X11_campaignAt v86 h87) fun v89 h90 => (some (v89, h90)))))) else none)) else none)) else none)) else none)))) else (xb (f_X11_good_ (0 : Int32) (0 : Int32) h61) fun v92 h93 => (if v92 = 0 then (some ((0 : Int32), h93)) else (xb (f_X11_remember N h93) fun v96 h97 => (if xin ((2057 : Int32) + ((4 : Int32) * (xm_i h97 303 2))) 2217 then (xl (xm_si h97 303 (Int32.toNatClampNeg ((2057 : Int32) + ((4 : Int32) * (xm_i h97 303 2)))) (xm_i h97 303 0)) fun h100 => (if xin (((2057 : Int32) + ((4 : Int32) * (xm_i h97 303 2))) + (1 : Int32)) 2217 then (xl (xm_si h100 303 (Int32.toNatClampNeg (((2057 : Int32) + ((4 : Int32) * (xm_i h97 303 2))) + (1 : Int32))) x1) fun h103 => (if xin (((2057 : Int32) + ((4 : Int32) * (xm_i h97 303 2))) + (2 : Int32)) 2217 then (xl (xm_si h103 303 (Int32.toNatClampNeg (((2057 : Int32) + ((4 : Int32) * (xm_i h97 303 2))) + (2 : Int32))) x2) fun h106 => (if xin (((2057 : Int32) + ((4 : Int32) * (xm_i h97 303 2))) + (3 : Int32)) 2217 then (xl (xm_si h106 303 (Int32.toNatClampNeg (((2057 : Int32) + ((4 : Int32) * (xm_i h97 303 2))) + (3 : Int32))) (xm_i h106 303 1)) fun h109 => (xl (xm_si h109 303 2 ((xm_i h109 303 2) + (1 : Int32))) fun h111 => (xb (f_X11_lastOf N ((xm_i h111 303 2) - (1 : Int32)) h111) fun v113 h114 => (xb (f_X11_campaignAt v113 h114) fun v116 h117 => (some (v116, h117)))))) else none)) else none)) else none)) else none))))) else (if (xm_i h61 303 2) < (40 : Int32) then (xb (f_X11_good_ (1 : Int32) (1 : Int32) h61) fun v120 h121 => (if v120 = 0 then (some ((0 : Int32), h121)) else (xb (f_X11_remember N h121) fun v124 h125 => (if xin ((2057 : Int32) + ((4 : Int32) * (xm_i h125 303 2))) 2217 then (xl (xm_si h125 303 (Int32.toNatClampNeg ((2057 : Int32) + ((4 : Int32) * (xm_i h125 303 2)))) (xm_i h125 303 0)) fun h128 => (if xin (((2057 : Int32) + ((4 : Int32) * (xm_i h125 303 2))) + (1 : Int32)) 2217 then (xl (xm_si h128 303 (Int32.toNatClampNeg (((2057 : Int32) + ((4 : Int32) * (xm_i h125 303 2))) + (1 : Int32))) x1) fun h131 => (if xin (((2057 : Int32) + ((4 : Int32) * (xm_i h125 303 2))) + (2 : Int32)) 2217 then (xl (xm_si h131 303 (Int32.toNatClampNeg (((2057 : Int32) + ((4 : Int32) * (xm_i h125 303 2))) + (2 : Int32))) x2) fun h134 => (if xin (((2057 : Int32) + ((4 : Int32) * (xm_i h125 303 2))) + (3 : Int32)) 2217 then (xl (xm_si h134 303 (Int32.toNatClampNeg (((2057 : Int32) + ((4 : Int32) * (xm_i h125 303 2))) + (3 : Int32))) (xm_i h134 303 1)) fun h137 => (xl (xm_si h137 303 2 ((xm_i h137 303 2) + (1 : Int32))) fun h139 => (xb (f_X11_lastOf N ((xm_i h139 303 2) - (1 : Int32)) h139) fun v141 h142 => (xb (f_X11_campaignAt v141 h142) fun v144 h145 => (some (v144, h145)))))) else none)) else none)) else none)) else none)))) else (xb (f_X11_good_ (1 : Int32) (0 : Int32) h61) fun v147 h148 => (if v147 = 0 then (some ((0 : Int32), h148)) else (xb (f_X11_remember N h148) fun v151 h152 => (if xin ((2057 : Int32) + ((4 : Int32) * (xm_i h152 303 2))) 2217 then (xl (xm_si h152 303 (Int32.toNatClampNeg ((2057 : Int32) + ((4 : Int32) * (xm_i h152 303 2)))) (xm_i h152 303 0)) fun h155 => (if xin (((2057 : Int32) + ((4 : Int32) * (xm_i h152 303 2))) + (1 : Int32)) 2217 then (xl (xm_si h155 303 (Int32.toNatClampNeg (((2057 : Int32) + ((4 : Int32) * (xm_i h152 303 2))) + (1 : Int32))) x1) fun h158 => (if xin (((2057 : Int32) + ((4 : Int32) * (xm_i h152 303 2))) + (2 : Int32)) 2217 then (xl (xm_si h158 303 (Int32.toNatClampNeg (((2057 : Int32) + ((4 : Int32) * (xm_i h152 303 2))) + (2 : Int32))) x2) fun h161 => (if xin (((2057 : Int32) + ((4 : Int32) * (xm_i h152 303 2))) + (3 : Int32)) 2217 then (xl (xm_si h161 303 (Int32.toNatClampNeg (((2057 : Int32) + ((4 : Int32) * (xm_i h152 303 2))) + (3 : Int32))) (xm_i h161 303 1)) fun h164 => (xl (xm_si h164 303 2 ((xm_i h164 303 2) + (1 : Int32))) fun h166 => (xb (f_X11_lastOf N ((xm_i h166 303 2) - (1 : Int32)) h166) fun v168 h169 => (xb (f_X11_campaignAt v168 h169) fun v171 h172 => (some (v171, h172)))))) else none)) else none)) else none)) else none)))))))))
theorem t_X11_convert {N : Nat} {ρ : Nat} {δ : Nat} {x1 : Int32} {x2 : Int32} {h : xm_H} {w : Int32 × xm_H}  (hS : xS ρ δ h) (hf : f_X11_convert N x1 x2 h = some w) : xm_Rn xX 4 221 [.ref 302, .int x1, .int x2] h (xji w.1) w.2 ∧ xS ρ δ w.2 := by
  refine xt_mk (φ := fun h => xS ρ δ h) (M := xM_X11_convert) (ls := [some (.ref 302), some (.int x1), some (.int x2), none]) rfl (Nat.le_of_ble_eq_true rfl) rfl (fun Q hQ => ?_)
  unfold f_X11_convert at hf
  refine xw_G (pc' := 1) (st' := [.ref 302]) rfl rfl trivial ?_
  refine xw_G (pc' := 2) (st' := [.int x1, .ref 302]) rfl rfl trivial ?_
  refine xb_e hf (fun v1 h2 e3 hf => ?_)
  refine xw_S (v := some (.int v1)) rfl (Nat.le_of_ble_eq_true rfl) (Nat.le_of_ble_eq_true rfl) (xm_Rn_le (Nat.le_of_ble_eq_true rfl) (t_X11_isUser  hS e3).1) ?_
  have hS := (t_X11_isUser  hS e3).2
  show xm_W _ _ _ 5 _ [.int v1, .ref 302] _
  refine xj_if_eq rfl hf (fun hc4 hf => ?_) (fun hc4 hf => ?_)
  · refine xw_G (pc' := 25) (st' := [.int (0 : Int32), .ref 302]) rfl rfl trivial ?_
    refine xw_G (pc' := 26) (st' := [.ref 302, .int (0 : Int32), .ref 302]) rfl rfl trivial ?_
    refine xw_gr rfl (xkf (xs_k hS rfl rfl : xm_k h2 302 = (11, 0))) (xs_r hS rfl) ?_
    refine xw_G (pc' := 30) (st' := [.int (2 : Int32), .ref 303, .int (0 : Int32), .ref 302]) rfl rfl trivial ?_
    refine xa_ld (t := 100) (τ := 0) (v := .int (xm_i h2 303 2)) rfl rfl (xkf (xs_k hS rfl rfl : xm_k h2 303 = (100, 2217))) (xkn (xs_k hS rfl rfl : xm_k h2 303 = (100, 2217))) (by decide : xin (2 : Int32) 2217) rfl ?_
    refine xw_G (pc' := 33) (st' := [.int (40 : Int32), .int (xm_i h2 303 2), .int (0 : Int32), .ref 302]) rfl rfl trivial ?_
    refine xj_ic_ge rfl hf (fun hc5 hf => ?_) (fun hc5 hf => ?_)
    · refine xw_G (pc' := 37) (st' := [.int (1 : Int32), .int (0 : Int32), .ref 302]) rfl rfl trivial ?_
      refine xw_G (pc' := 41) (st' := [.int (1 : Int32), .int (0 : Int32), .ref 302]) rfl rfl trivial ?_
      refine xb_e hf (fun v6 h7 e8 hf => ?_)
      refine xw_V (v := some (.int v6)) rfl rfl (xkf (xs_k hS rfl rfl : xm_k h2 302 = (11, 0))) (Nat.le_of_ble_eq_true rfl) (Nat.le_of_ble_eq_true rfl) (xm_Rn_le (Nat.le_of_ble_eq_true rfl) (t_X11_good_  hS e8).1) ?_
      have hS := (t_X11_good_  hS e8).2
      show xm_W _ _ _ 44 _ [.int v6] _
      refine xj_if_ne rfl hf (fun hc9 hf => ?_) (fun hc9 hf => ?_)
      · refine xw_G (pc' := 48) (st' := [.int (0 : Int32)]) rfl rfl trivial ?_
        exact xr_i (inj := xji) rfl rfl rfl rfl hf hQ hS
      · refine xw_G (pc' := 50) (st' := [.ref 302]) rfl rfl trivial ?_
        refine xb_e hf (fun v10 h11 e12 hf => ?_)
        refine xw_V (v := none) rfl rfl (xkf (xs_k hS rfl rfl : xm_k h7 302 = (11, 0))) (Nat.le_of_ble_eq_true rfl) (Nat.le_of_ble_eq_true rfl) (xm_Rn_le (Nat.le_of_ble_eq_true rfl) (t_X11_remember  hS e12).1) ?_
        have hS := (t_X11_remember  hS e12).2
        show xm_W _ _ _ 53 _ [] _
        refine xw_G (pc' := 56) (st' := [.int (2057 : Int32)]) rfl rfl trivial ?_
        refine xw_G (pc' := 57) (st' := [.int (4 : Int32), .int (2057 : Int32)]) rfl rfl trivial ?_
        refine xw_G (pc' := 58) (st' := [.ref 302, .int (4 : Int32), .int (2057 : Int32)]) rfl rfl trivial ?_
        refine xw_gr rfl (xkf (xs_k hS rfl rfl : xm_k h11 302 = (11, 0))) (xs_r hS rfl) ?_
        refine xw_G (pc' := 62) (st' := [.int (2 : Int32), .ref 303, .int (4 : Int32), .int (2057 : Int32)]) rfl rfl trivial ?_
        refine xa_ld (t := 100) (τ := 0) (v := .int (xm_i h11 303 2)) rfl rfl (xkf (xs_k hS rfl rfl : xm_k h11 303 = (100, 2217))) (xkn (xs_k hS rfl rfl : xm_k h11 303 = (100, 2217))) (by decide : xin (2 : Int32) 2217) rfl ?_
        refine xw_G (pc' := 64) (st' := [.int ((4 : Int32) * (xm_i h11 303 2)), .int (2057 : Int32)]) rfl rfl trivial ?_
        refine xw_G (pc' := 65) (st' := [.int ((2057 : Int32) + ((4 : Int32) * (xm_i h11 303 2)))]) rfl rfl trivial ?_
        refine xw_G (pc' := 66) (ls' := [some (.ref 302), some (.int x1), some (.int x2), some (.int ((2057 : Int32) + ((4 : Int32) * (xm_i h11 303 2))))]) (st' := []) rfl rfl (Nat.le_of_ble_eq_true rfl) ?_
        refine xw_G (pc' := 67) (st' := [.ref 302]) rfl rfl trivial ?_
        refine xw_gr rfl (xkf (xs_k hS rfl rfl : xm_k h11 302 = (11, 0))) (xs_r hS rfl) ?_
        refine xw_G (pc' := 71) (st' := [.int ((2057 : Int32) + ((4 : Int32) * (xm_i h11 303 2))), .ref 303]) rfl rfl trivial ?_
        refine xw_G (pc' := 72) (st' := [.ref 302, .int ((2057 : Int32) + ((4 : Int32) * (xm_i h11 303 2))), .ref 303]) rfl rfl trivial ?_
        refine xw_gr rfl (xkf (xs_k hS rfl rfl : xm_k h11 302 = (11, 0))) (xs_r hS rfl) ?_
        refine xw_G (pc' := 76) (st' := [.int (0 : Int32), .ref 303, .int ((2057 : Int32) + ((4 : Int32) * (xm_i h11 303 2))), .ref 303]) rfl rfl trivial ?_
        refine xa_ld (t := 100) (τ := 0) (v := .int (xm_i h11 303 0)) rfl rfl (xkf (xs_k hS rfl rfl : xm_k h11 303 = (100, 2217))) (xkn (xs_k hS rfl rfl : xm_k h11 303 = (100, 2217))) (by decide : xin (0 : Int32) 2217) rfl ?_
        refine xg_e hf (fun hg13 hf => ?_)
        refine xa_i rfl (xkf (xs_k hS rfl rfl : xm_k h11 303 = (100, 2217))) (xkn (xs_k hS rfl rfl : xm_k h11 303 = (100, 2217))) hg13 (Nat.le_of_ble_eq_true rfl) hf (fun h14 e15 hf => ?_)
        have hS := xS_si hS e15
        refine xw_G (pc' := 79) (st' := [.ref 302]) rfl rfl trivial ?_
        refine xw_gr rfl (xkf (xs_k hS rfl rfl : xm_k h14 302 = (11, 0))) (xs_r hS rfl) ?_
        refine xw_G (pc' := 83) (st' := [.int ((2057 : Int32) + ((4 : Int32) * (xm_i h11 303 2))), .ref 303]) rfl rfl trivial ?_
        refine xw_G (pc' := 84) (st' := [.int (1 : Int32), .int ((2057 : Int32) + ((4 : Int32) * (xm_i h11 303 2))), .ref 303]) rfl rfl trivial ?_
        refine xw_G (pc' := 85) (st' := [.int (((2057 : Int32) + ((4 : Int32) * (xm_i h11 303 2))) + (1 : Int32)), .ref 303]) rfl rfl trivial ?_
        refine xw_G (pc' := 86) (st' := [.int x1, .int (((2057 : Int32) + ((4 : Int32) * (xm_i h11 303 2))) + (1 : Int32)), .ref 303]) rfl rfl trivial ?_
        refine xg_e hf (fun hg16 hf => ?_)
        refine xa_i rfl (xkf (xs_k hS rfl rfl : xm_k h14 303 = (100, 2217))) (xkn (xs_k hS rfl rfl : xm_k h14 303 = (100, 2217))) hg16 (Nat.le_of_ble_eq_true rfl) hf (fun h17 e18 hf => ?_)
        have hS := xS_si hS e18
        refine xw_G (pc' := 88) (st' := [.ref 302]) rfl rfl trivial ?_
        refine xw_gr rfl (xkf (xs_k hS rfl rfl : xm_k h17 302 = (11, 0))) (xs_r hS rfl) ?_
        refine xw_G (pc' := 92) (st' := [.int ((2057 : Int32) + ((4 : Int32) * (xm_i h11 303 2))), .ref 303]) rfl rfl trivial ?_
        refine xw_G (pc' := 93) (st' := [.int (2 : Int32), .int ((2057 : Int32) + ((4 : Int32) * (xm_i h11 303 2))), .ref 303]) rfl rfl trivial ?_
        refine xw_G (pc' := 94) (st' := [.int (((2057 : Int32) + ((4 : Int32) * (xm_i h11 303 2))) + (2 : Int32)), .ref 303]) rfl rfl trivial ?_
        refine xw_G (pc' := 95) (st' := [.int x2, .int (((2057 : Int32) + ((4 : Int32) * (xm_i h11 303 2))) + (2 : Int32)), .ref 303]) rfl rfl trivial ?_
        refine xg_e hf (fun hg19 hf => ?_)
        refine xa_i rfl (xkf (xs_k hS rfl rfl : xm_k h17 303 = (100, 2217))) (xkn (xs_k hS rfl rfl : xm_k h17 303 = (100, 2217))) hg19 (Nat.le_of_ble_eq_true rfl) hf (fun h20 e21 hf => ?_)
        have hS := xS_si hS e21
        refine xw_G (pc' := 97) (st' := [.ref 302]) rfl rfl trivial ?_
        refine xw_gr rfl (xkf (xs_k hS rfl rfl : xm_k h20 302 = (11, 0))) (xs_r hS rfl) ?_
        refine xw_G (pc' := 101) (st' := [.int ((2057 : Int32) + ((4 : Int32) * (xm_i h11 303 2))), .ref 303]) rfl rfl trivial ?_
        refine xw_G (pc' := 102) (st' := [.int (3 : Int32), .int ((2057 : Int32) + ((4 : Int32) * (xm_i h11 303 2))), .ref 303]) rfl rfl trivial ?_
        refine xw_G (pc' := 103) (st' := [.int (((2057 : Int32) + ((4 : Int32) * (xm_i h11 303 2))) + (3 : Int32)), .ref 303]) rfl rfl trivial ?_
        refine xw_G (pc' := 104) (st' := [.ref 302, .int (((2057 : Int32) + ((4 : Int32) * (xm_i h11 303 2))) + (3 : Int32)), .ref 303]) rfl rfl trivial ?_
        refine xw_gr rfl (xkf (xs_k hS rfl rfl : xm_k h20 302 = (11, 0))) (xs_r hS rfl) ?_
        refine xw_G (pc' := 108) (st' := [.int (1 : Int32), .ref 303, .int (((2057 : Int32) + ((4 : Int32) * (xm_i h11 303 2))) + (3 : Int32)), .ref 303]) rfl rfl trivial ?_
        refine xa_ld (t := 100) (τ := 0) (v := .int (xm_i h20 303 1)) rfl rfl (xkf (xs_k hS rfl rfl : xm_k h20 303 = (100, 2217))) (xkn (xs_k hS rfl rfl : xm_k h20 303 = (100, 2217))) (by decide : xin (1 : Int32) 2217) rfl ?_
        refine xg_e hf (fun hg22 hf => ?_)
        refine xa_i rfl (xkf (xs_k hS rfl rfl : xm_k h20 303 = (100, 2217))) (xkn (xs_k hS rfl rfl : xm_k h20 303 = (100, 2217))) hg22 (Nat.le_of_ble_eq_true rfl) hf (fun h23 e24 hf => ?_)
        have hS := xS_si hS e24
        refine xw_G (pc' := 111) (st' := [.ref 302]) rfl rfl trivial ?_
        refine xw_gr rfl (xkf (xs_k hS rfl rfl : xm_k h23 302 = (11, 0))) (xs_r hS rfl) ?_
        refine xw_G (pc' := 115) (st' := [.int (2 : Int32), .ref 303]) rfl rfl trivial ?_
        refine xw_G (pc' := 116) (st' := [.int (2 : Int32), .ref 303, .int (2 : Int32), .ref 303]) rfl rfl ⟨rfl, rfl⟩ ?_
        refine xa_ld (t := 100) (τ := 0) (v := .int (xm_i h23 303 2)) rfl rfl (xkf (xs_k hS rfl rfl : xm_k h23 303 = (100, 2217))) (xkn (xs_k hS rfl rfl : xm_k h23 303 = (100, 2217))) (by decide : xin (2 : Int32) 2217) rfl ?_
        refine xw_G (pc' := 118) (st' := [.int (1 : Int32), .int (xm_i h23 303 2), .int (2 : Int32), .ref 303]) rfl rfl trivial ?_
        refine xw_G (pc' := 119) (st' := [.int ((xm_i h23 303 2) + (1 : Int32)), .int (2 : Int32), .ref 303]) rfl rfl trivial ?_
        refine xa_i rfl (xkf (xs_k hS rfl rfl : xm_k h23 303 = (100, 2217))) (xkn (xs_k hS rfl rfl : xm_k h23 303 = (100, 2217))) (by decide : xin (2 : Int32) 2217) (Nat.le_of_ble_eq_true rfl) hf (fun h25 e26 hf => ?_)
        have hS := xS_si hS e26
        refine xw_G (pc' := 121) (st' := [.ref 302]) rfl rfl trivial ?_
        refine xw_G (pc' := 122) (st' := [.ref 302, .ref 302]) rfl rfl trivial ?_
        refine xw_G (pc' := 123) (st' := [.ref 302, .ref 302, .ref 302]) rfl rfl trivial ?_
        refine xw_gr rfl (xkf (xs_k hS rfl rfl : xm_k h25 302 = (11, 0))) (xs_r hS rfl) ?_
        refine xw_G (pc' := 127) (st' := [.int (2 : Int32), .ref 303, .ref 302, .ref 302]) rfl rfl trivial ?_
        refine xa_ld (t := 100) (τ := 0) (v := .int (xm_i h25 303 2)) rfl rfl (xkf (xs_k hS rfl rfl : xm_k h25 303 = (100, 2217))) (xkn (xs_k hS rfl rfl : xm_k h25 303 = (100, 2217))) (by decide : xin (2 : Int32) 2217) rfl ?_
        refine xw_G (pc' := 129) (st' := [.int (1 : Int32), .int (xm_i h25 303 2), .ref 302, .ref 302]) rfl rfl trivial ?_
        refine xw_G (pc' := 130) (st' := [.int ((xm_i h25 303 2) - (1 : Int32)), .ref 302, .ref 302]) rfl rfl trivial ?_
        refine xb_e hf (fun v27 h28 e29 hf => ?_)
        refine xw_V (v := some (.int v27)) rfl rfl (xkf (xs_k hS rfl rfl : xm_k h25 302 = (11, 0))) (Nat.le_of_ble_eq_true rfl) (Nat.le_of_ble_eq_true rfl) (xm_Rn_le (Nat.le_of_ble_eq_true rfl) (t_X11_lastOf  hS e29).1) ?_
        have hS := (t_X11_lastOf  hS e29).2
        show xm_W _ _ _ 133 _ [.int v27, .ref 302] _
        refine xb_e hf (fun v30 h31 e32 hf => ?_)
        refine xw_V (v := some (.int v30)) rfl rfl (xkf (xs_k hS rfl rfl : xm_k h28 302 = (11, 0))) (Nat.le_of_ble_eq_true rfl) (Nat.le_of_ble_eq_true rfl) (xm_Rn_le (Nat.le_of_ble_eq_true rfl) (t_X11_campaignAt  hS e32).1) ?_
        have hS := (t_X11_campaignAt  hS e32).2
        show xm_W _ _ _ 136 _ [.int v30] _
        exact xr_i (inj := xji) rfl rfl rfl rfl hf hQ hS
    · refine xw_G (pc' := 41) (st' := [.int (0 : Int32), .int (0 : Int32), .ref 302]) rfl rfl trivial ?_
      refine xb_e hf (fun v33 h34 e35 hf => ?_)
      refine xw_V (v := some (.int v33)) rfl rfl (xkf (xs_k hS rfl rfl : xm_k h2 302 = (11, 0))) (Nat.le_of_ble_eq_true rfl) (Nat.le_of_ble_eq_true rfl) (xm_Rn_le (Nat.le_of_ble_eq_true rfl) (t_X11_good_  hS e35).1) ?_
      have hS := (t_X11_good_  hS e35).2
      show xm_W _ _ _ 44 _ [.int v33] _
      refine xj_if_ne rfl hf (fun hc36 hf => ?_) (fun hc36 hf => ?_)
      · refine xw_G (pc' := 48) (st' := [.int (0 : Int32)]) rfl rfl trivial ?_
        exact xr_i (inj := xji) rfl rfl rfl rfl hf hQ hS
      · refine xw_G (pc' := 50) (st' := [.ref 302]) rfl rfl trivial ?_
        refine xb_e hf (fun v37 h38 e39 hf => ?_)
        refine xw_V (v := none) rfl rfl (xkf (xs_k hS rfl rfl : xm_k h34 302 = (11, 0))) (Nat.le_of_ble_eq_true rfl) (Nat.le_of_ble_eq_true rfl) (xm_Rn_le (Nat.le_of_ble_eq_true rfl) (t_X11_remember  hS e39).1) ?_
        have hS := (t_X11_remember  hS e39).2
        show xm_W _ _ _ 53 _ [] _
        refine xw_G (pc' := 56) (st' := [.int (2057 : Int32)]) rfl rfl trivial ?_
        refine xw_G (pc' := 57) (st' := [.int (4 : Int32), .int (2057 : Int32)]) rfl rfl trivial ?_
        refine xw_G (pc' := 58) (st' := [.ref 302, .int (4 : Int32), .int (2057 : Int32)]) rfl rfl trivial ?_
        refine xw_gr rfl (xkf (xs_k hS rfl rfl : xm_k h38 302 = (11, 0))) (xs_r hS rfl) ?_
        refine xw_G (pc' := 62) (st' := [.int (2 : Int32), .ref 303, .int (4 : Int32), .int (2057 : Int32)]) rfl rfl trivial ?_
        refine xa_ld (t := 100) (τ := 0) (v := .int (xm_i h38 303 2)) rfl rfl (xkf (xs_k hS rfl rfl : xm_k h38 303 = (100, 2217))) (xkn (xs_k hS rfl rfl : xm_k h38 303 = (100, 2217))) (by decide : xin (2 : Int32) 2217) rfl ?_
        refine xw_G (pc' := 64) (st' := [.int ((4 : Int32) * (xm_i h38 303 2)), .int (2057 : Int32)]) rfl rfl trivial ?_
        refine xw_G (pc' := 65) (st' := [.int ((2057 : Int32) + ((4 : Int32) * (xm_i h38 303 2)))]) rfl rfl trivial ?_
        refine xw_G (pc' := 66) (ls' := [some (.ref 302), some (.int x1), some (.int x2), some (.int ((2057 : Int32) + ((4 : Int32) * (xm_i h38 303 2))))]) (st' := []) rfl rfl (Nat.le_of_ble_eq_true rfl) ?_
        refine xw_G (pc' := 67) (st' := [.ref 302]) rfl rfl trivial ?_
        refine xw_gr rfl (xkf (xs_k hS rfl rfl : xm_k h38 302 = (11, 0))) (xs_r hS rfl) ?_
        refine xw_G (pc' := 71) (st' := [.int ((2057 : Int32) + ((4 : Int32) * (xm_i h38 303 2))), .ref 303]) rfl rfl trivial ?_
        refine xw_G (pc' := 72) (st' := [.ref 302, .int ((2057 : Int32) + ((4 : Int32) * (xm_i h38 303 2))), .ref 303]) rfl rfl trivial ?_
        refine xw_gr rfl (xkf (xs_k hS rfl rfl : xm_k h38 302 = (11, 0))) (xs_r hS rfl) ?_
        refine xw_G (pc' := 76) (st' := [.int (0 : Int32), .ref 303, .int ((2057 : Int32) + ((4 : Int32) * (xm_i h38 303 2))), .ref 303]) rfl rfl trivial ?_
        refine xa_ld (t := 100) (τ := 0) (v := .int (xm_i h38 303 0)) rfl rfl (xkf (xs_k hS rfl rfl : xm_k h38 303 = (100, 2217))) (xkn (xs_k hS rfl rfl : xm_k h38 303 = (100, 2217))) (by decide : xin (0 : Int32) 2217) rfl ?_
        refine xg_e hf (fun hg40 hf => ?_)
        refine xa_i rfl (xkf (xs_k hS rfl rfl : xm_k h38 303 = (100, 2217))) (xkn (xs_k hS rfl rfl : xm_k h38 303 = (100, 2217))) hg40 (Nat.le_of_ble_eq_true rfl) hf (fun h41 e42 hf => ?_)
        have hS := xS_si hS e42
        refine xw_G (pc' := 79) (st' := [.ref 302]) rfl rfl trivial ?_
        refine xw_gr rfl (xkf (xs_k hS rfl rfl : xm_k h41 302 = (11, 0))) (xs_r hS rfl) ?_
        refine xw_G (pc' := 83) (st' := [.int ((2057 : Int32) + ((4 : Int32) * (xm_i h38 303 2))), .ref 303]) rfl rfl trivial ?_
        refine xw_G (pc' := 84) (st' := [.int (1 : Int32), .int ((2057 : Int32) + ((4 : Int32) * (xm_i h38 303 2))), .ref 303]) rfl rfl trivial ?_
        refine xw_G (pc' := 85) (st' := [.int (((2057 : Int32) + ((4 : Int32) * (xm_i h38 303 2))) + (1 : Int32)), .ref 303]) rfl rfl trivial ?_
        refine xw_G (pc' := 86) (st' := [.int x1, .int (((2057 : Int32) + ((4 : Int32) * (xm_i h38 303 2))) + (1 : Int32)), .ref 303]) rfl rfl trivial ?_
        refine xg_e hf (fun hg43 hf => ?_)
        refine xa_i rfl (xkf (xs_k hS rfl rfl : xm_k h41 303 = (100, 2217))) (xkn (xs_k hS rfl rfl : xm_k h41 303 = (100, 2217))) hg43 (Nat.le_of_ble_eq_true rfl) hf (fun h44 e45 hf => ?_)
        have hS := xS_si hS e45
        refine xw_G (pc' := 88) (st' := [.ref 302]) rfl rfl trivial ?_
        refine xw_gr rfl (xkf (xs_k hS rfl rfl : xm_k h44 302 = (11, 0))) (xs_r hS rfl) ?_
        refine xw_G (pc' := 92) (st' := [.int ((2057 : Int32) + ((4 : Int32) * (xm_i h38 303 2))), .ref 303]) rfl rfl trivial ?_
        refine xw_G (pc' := 93) (st' := [.int (2 : Int32), .int ((2057 : Int32) + ((4 : Int32) * (xm_i h38 303 2))), .ref 303]) rfl rfl trivial ?_
        refine xw_G (pc' := 94) (st' := [.int (((2057 : Int32) + ((4 : Int32) * (xm_i h38 303 2))) + (2 : Int32)), .ref 303]) rfl rfl trivial ?_
        refine xw_G (pc' := 95) (st' := [.int x2, .int (((2057 : Int32) + ((4 : Int32) * (xm_i h38 303 2))) + (2 : Int32)), .ref 303]) rfl rfl trivial ?_
        refine xg_e hf (fun hg46 hf => ?_)
        refine xa_i rfl (xkf (xs_k hS rfl rfl : xm_k h44 303 = (100, 2217))) (xkn (xs_k hS rfl rfl : xm_k h44 303 = (100, 2217))) hg46 (Nat.le_of_ble_eq_true rfl) hf (fun h47 e48 hf => ?_)
        have hS := xS_si hS e48
        refine xw_G (pc' := 97) (st' := [.ref 302]) rfl rfl trivial ?_
        refine xw_gr rfl (xkf (xs_k hS rfl rfl : xm_k h47 302 = (11, 0))) (xs_r hS rfl) ?_
        refine xw_G (pc' := 101) (st' := [.int ((2057 : Int32) + ((4 : Int32) * (xm_i h38 303 2))), .ref 303]) rfl rfl trivial ?_
        refine xw_G (pc' := 102) (st' := [.int (3 : Int32), .int ((2057 : Int32) + ((4 : Int32) * (xm_i h38 303 2))), .ref 303]) rfl rfl trivial ?_
        refine xw_G (pc' := 103) (st' := [.int (((2057 : Int32) + ((4 : Int32) * (xm_i h38 303 2))) + (3 : Int32)), .ref 303]) rfl rfl trivial ?_
        refine xw_G (pc' := 104) (st' := [.ref 302, .int (((2057 : Int32) + ((4 : Int32) * (xm_i h38 303 2))) + (3 : Int32)), .ref 303]) rfl rfl trivial ?_
        refine xw_gr rfl (xkf (xs_k hS rfl rfl : xm_k h47 302 = (11, 0))) (xs_r hS rfl) ?_
        refine xw_G (pc' := 108) (st' := [.int (1 : Int32), .ref 303, .int (((2057 : Int32) + ((4 : Int32) * (xm_i h38 303 2))) + (3 : Int32)), .ref 303]) rfl rfl trivial ?_
        refine xa_ld (t := 100) (τ := 0) (v := .int (xm_i h47 303 1)) rfl rfl (xkf (xs_k hS rfl rfl : xm_k h47 303 = (100, 2217))) (xkn (xs_k hS rfl rfl : xm_k h47 303 = (100, 2217))) (by decide : xin (1 : Int32) 2217) rfl ?_
        refine xg_e hf (fun hg49 hf => ?_)
        refine xa_i rfl (xkf (xs_k hS rfl rfl : xm_k h47 303 = (100, 2217))) (xkn (xs_k hS rfl rfl : xm_k h47 303 = (100, 2217))) hg49 (Nat.le_of_ble_eq_true rfl) hf (fun h50 e51 hf => ?_)
        have hS := xS_si hS e51
        refine xw_G (pc' := 111) (st' := [.ref 302]) rfl rfl trivial ?_
        refine xw_gr rfl (xkf (xs_k hS rfl rfl : xm_k h50 302 = (11, 0))) (xs_r hS rfl) ?_
        refine xw_G (pc' := 115) (st' := [.int (2 : Int32), .ref 303]) rfl rfl trivial ?_
        refine xw_G (pc' := 116) (st' := [.int (2 : Int32), .ref 303, .int (2 : Int32), .ref 303]) rfl rfl ⟨rfl, rfl⟩ ?_
        refine xa_ld (t := 100) (τ := 0) (v := .int (xm_i h50 303 2)) rfl rfl (xkf (xs_k hS rfl rfl : xm_k h50 303 = (100, 2217))) (xkn (xs_k hS rfl rfl : xm_k h50 303 = (100, 2217))) (by decide : xin (2 : Int32) 2217) rfl ?_
        refine xw_G (pc' := 118) (st' := [.int (1 : Int32), .int (xm_i h50 303 2), .int (2 : Int32), .ref 303]) rfl rfl trivial ?_
        refine xw_G (pc' := 119) (st' := [.int ((xm_i h50 303 2) + (1 : Int32)), .int (2 : Int32), .ref 303]) rfl rfl trivial ?_
        refine xa_i rfl (xkf (xs_k hS rfl rfl : xm_k h50 303 = (100, 2217))) (xkn (xs_k hS rfl rfl : xm_k h50 303 = (100, 2217))) (by decide : xin (2 : Int32) 2217) (Nat.le_of_ble_eq_true rfl) hf (fun h52 e53 hf => ?_)
        have hS := xS_si hS e53
        refine xw_G (pc' := 121) (st' := [.ref 302]) rfl rfl trivial ?_
        refine xw_G (pc' := 122) (st' := [.ref 302, .ref 302]) rfl rfl trivial ?_
        refine xw_G (pc' := 123) (st' := [.ref 302, .ref 302, .ref 302]) rfl rfl trivial ?_
        refine xw_gr rfl (xkf (xs_k hS rfl rfl : xm_k h52 302 = (11, 0))) (xs_r hS rfl) ?_
        refine xw_G (pc' := 127) (st' := [.int (2 : Int32), .ref 303, .ref 302, .ref 302]) rfl rfl trivial ?_
        refine xa_ld (t := 100) (τ := 0) (v := .int (xm_i h52 303 2)) rfl rfl (xkf (xs_k hS rfl rfl : xm_k h52 303 = (100, 2217))) (xkn (xs_k hS rfl rfl : xm_k h52 303 = (100, 2217))) (by decide : xin (2 : Int32) 2217) rfl ?_
        refine xw_G (pc' := 129) (st' := [.int (1 : Int32), .int (xm_i h52 303 2), .ref 302, .ref 302]) rfl rfl trivial ?_
        refine xw_G (pc' := 130) (st' := [.int ((xm_i h52 303 2) - (1 : Int32)), .ref 302, .ref 302]) rfl rfl trivial ?_
        refine xb_e hf (fun v54 h55 e56 hf => ?_)
        refine xw_V (v := some (.int v54)) rfl rfl (xkf (xs_k hS rfl rfl : xm_k h52 302 = (11, 0))) (Nat.le_of_ble_eq_true rfl) (Nat.le_of_ble_eq_true rfl) (xm_Rn_le (Nat.le_of_ble_eq_true rfl) (t_X11_lastOf  hS e56).1) ?_
        have hS := (t_X11_lastOf  hS e56).2
        show xm_W _ _ _ 133 _ [.int v54, .ref 302] _
        refine xb_e hf (fun v57 h58 e59 hf => ?_)
        refine xw_V (v := some (.int v57)) rfl rfl (xkf (xs_k hS rfl rfl : xm_k h55 302 = (11, 0))) (Nat.le_of_ble_eq_true rfl) (Nat.le_of_ble_eq_true rfl) (xm_Rn_le (Nat.le_of_ble_eq_true rfl) (t_X11_campaignAt  hS e59).1) ?_
        have hS := (t_X11_campaignAt  hS e59).2
        show xm_W _ _ _ 136 _ [.int v57] _
        exact xr_i (inj := xji) rfl rfl rfl rfl hf hQ hS
  · refine xw_G (pc' := 9) (st' := [.int x2, .ref 302]) rfl rfl trivial ?_
    refine xw_G (pc' := 10) (st' := [.long (Int32.toInt64 x2), .ref 302]) rfl rfl trivial ?_
    refine xw_G (pc' := 11) (st' := [.long (1 : Int64), .long (Int32.toInt64 x2), .ref 302]) rfl rfl trivial ?_
    refine xw_G (pc' := 14) (st' := [.long (9999 : Int64), .long (1 : Int64), .long (Int32.toInt64 x2), .ref 302]) rfl rfl trivial ?_
    refine xb_e hf (fun v60 h61 e62 hf => ?_)
    refine xw_S (v := some (.int v60)) rfl (Nat.le_of_ble_eq_true rfl) (Nat.le_of_ble_eq_true rfl) (xm_Rn_le (Nat.le_of_ble_eq_true rfl) (t_X11_between  hS e62).1) ?_
    have hS := (t_X11_between  hS e62).2
    show xm_W _ _ _ 17 _ [.int v60, .ref 302] _
    refine xj_if_eq rfl hf (fun hc63 hf => ?_) (fun hc63 hf => ?_)
    · refine xw_G (pc' := 25) (st' := [.int (0 : Int32), .ref 302]) rfl rfl trivial ?_
      refine xw_G (pc' := 26) (st' := [.ref 302, .int (0 : Int32), .ref 302]) rfl rfl trivial ?_
      refine xw_gr rfl (xkf (xs_k hS rfl rfl : xm_k h61 302 = (11, 0))) (xs_r hS rfl) ?_
      refine xw_G (pc' := 30) (st' := [.int (2 : Int32), .ref 303, .int (0 : Int32), .ref 302]) rfl rfl trivial ?_
      refine xa_ld (t := 100) (τ := 0) (v := .int (xm_i h61 303 2)) rfl rfl (xkf (xs_k hS rfl rfl : xm_k h61 303 = (100, 2217))) (xkn (xs_k hS rfl rfl : xm_k h61 303 = (100, 2217))) (by decide : xin (2 : Int32) 2217) rfl ?_
      refine xw_G (pc' := 33) (st' := [.int (40 : Int32), .int (xm_i h61 303 2), .int (0 : Int32), .ref 302]) rfl rfl trivial ?_
      refine xj_ic_ge rfl hf (fun hc64 hf => ?_) (fun hc64 hf => ?_)
      · refine xw_G (pc' := 37) (st' := [.int (1 : Int32), .int (0 : Int32), .ref 302]) rfl rfl trivial ?_
        refine xw_G (pc' := 41) (st' := [.int (1 : Int32), .int (0 : Int32), .ref 302]) rfl rfl trivial ?_
        refine xb_e hf (fun v65 h66 e67 hf => ?_)
        refine xw_V (v := some (.int v65)) rfl rfl (xkf (xs_k hS rfl rfl : xm_k h61 302 = (11, 0))) (Nat.le_of_ble_eq_true rfl) (Nat.le_of_ble_eq_true rfl) (xm_Rn_le (Nat.le_of_ble_eq_true rfl) (t_X11_good_  hS e67).1) ?_
        have hS := (t_X11_good_  hS e67).2
        show xm_W _ _ _ 44 _ [.int v65] _
        refine xj_if_ne rfl hf (fun hc68 hf => ?_) (fun hc68 hf => ?_)
        · refine xw_G (pc' := 48) (st' := [.int (0 : Int32)]) rfl rfl trivial ?_
          exact xr_i (inj := xji) rfl rfl rfl rfl hf hQ hS
        · refine xw_G (pc' := 50) (st' := [.ref 302]) rfl rfl trivial ?_
          refine xb_e hf (fun v69 h70 e71 hf => ?_)
          refine xw_V (v := none) rfl rfl (xkf (xs_k hS rfl rfl : xm_k h66 302 = (11, 0))) (Nat.le_of_ble_eq_true rfl) (Nat.le_of_ble_eq_true rfl) (xm_Rn_le (Nat.le_of_ble_eq_true rfl) (t_X11_remember  hS e71).1) ?_
          have hS := (t_X11_remember  hS e71).2
          show xm_W _ _ _ 53 _ [] _
          refine xw_G (pc' := 56) (st' := [.int (2057 : Int32)]) rfl rfl trivial ?_
          refine xw_G (pc' := 57) (st' := [.int (4 : Int32), .int (2057 : Int32)]) rfl rfl trivial ?_
          refine xw_G (pc' := 58) (st' := [.ref 302, .int (4 : Int32), .int (2057 : Int32)]) rfl rfl trivial ?_
          refine xw_gr rfl (xkf (xs_k hS rfl rfl : xm_k h70 302 = (11, 0))) (xs_r hS rfl) ?_
          refine xw_G (pc' := 62) (st' := [.int (2 : Int32), .ref 303, .int (4 : Int32), .int (2057 : Int32)]) rfl rfl trivial ?_
          refine xa_ld (t := 100) (τ := 0) (v := .int (xm_i h70 303 2)) rfl rfl (xkf (xs_k hS rfl rfl : xm_k h70 303 = (100, 2217))) (xkn (xs_k hS rfl rfl : xm_k h70 303 = (100, 2217))) (by decide : xin (2 : Int32) 2217) rfl ?_
          refine xw_G (pc' := 64) (st' := [.int ((4 : Int32) * (xm_i h70 303 2)), .int (2057 : Int32)]) rfl rfl trivial ?_
          refine xw_G (pc' := 65) (st' := [.int ((2057 : Int32) + ((4 : Int32) * (xm_i h70 303 2)))]) rfl rfl trivial ?_
          refine xw_G (pc' := 66) (ls' := [some (.ref 302), some (.int x1), some (.int x2), some (.int ((2057 : Int32) + ((4 : Int32) * (xm_i h70 303 2))))]) (st' := []) rfl rfl (Nat.le_of_ble_eq_true rfl) ?_
          refine xw_G (pc' := 67) (st' := [.ref 302]) rfl rfl trivial ?_
          refine xw_gr rfl (xkf (xs_k hS rfl rfl : xm_k h70 302 = (11, 0))) (xs_r hS rfl) ?_
          refine xw_G (pc' := 71) (st' := [.int ((2057 : Int32) + ((4 : Int32) * (xm_i h70 303 2))), .ref 303]) rfl rfl trivial ?_
          refine xw_G (pc' := 72) (st' := [.ref 302, .int ((2057 : Int32) + ((4 : Int32) * (xm_i h70 303 2))), .ref 303]) rfl rfl trivial ?_
          refine xw_gr rfl (xkf (xs_k hS rfl rfl : xm_k h70 302 = (11, 0))) (xs_r hS rfl) ?_
          refine xw_G (pc' := 76) (st' := [.int (0 : Int32), .ref 303, .int ((2057 : Int32) + ((4 : Int32) * (xm_i h70 303 2))), .ref 303]) rfl rfl trivial ?_
          refine xa_ld (t := 100) (τ := 0) (v := .int (xm_i h70 303 0)) rfl rfl (xkf (xs_k hS rfl rfl : xm_k h70 303 = (100, 2217))) (xkn (xs_k hS rfl rfl : xm_k h70 303 = (100, 2217))) (by decide : xin (0 : Int32) 2217) rfl ?_
          refine xg_e hf (fun hg72 hf => ?_)
          refine xa_i rfl (xkf (xs_k hS rfl rfl : xm_k h70 303 = (100, 2217))) (xkn (xs_k hS rfl rfl : xm_k h70 303 = (100, 2217))) hg72 (Nat.le_of_ble_eq_true rfl) hf (fun h73 e74 hf => ?_)
          have hS := xS_si hS e74
          refine xw_G (pc' := 79) (st' := [.ref 302]) rfl rfl trivial ?_
          refine xw_gr rfl (xkf (xs_k hS rfl rfl : xm_k h73 302 = (11, 0))) (xs_r hS rfl) ?_
          refine xw_G (pc' := 83) (st' := [.int ((2057 : Int32) + ((4 : Int32) * (xm_i h70 303 2))), .ref 303]) rfl rfl trivial ?_
          refine xw_G (pc' := 84) (st' := [.int (1 : Int32), .int ((2057 : Int32) + ((4 : Int32) * (xm_i h70 303 2))), .ref 303]) rfl rfl trivial ?_
          refine xw_G (pc' := 85) (st' := [.int (((2057 : Int32) + ((4 : Int32) * (xm_i h70 303 2))) + (1 : Int32)), .ref 303]) rfl rfl trivial ?_
          refine xw_G (pc' := 86) (st' := [.int x1, .int (((2057 : Int32) + ((4 : Int32) * (xm_i h70 303 2))) + (1 : Int32)), .ref 303]) rfl rfl trivial ?_
          refine xg_e hf (fun hg75 hf => ?_)
          refine xa_i rfl (xkf (xs_k hS rfl rfl : xm_k h73 303 = (100, 2217))) (xkn (xs_k hS rfl rfl : xm_k h73 303 = (100, 2217))) hg75 (Nat.le_of_ble_eq_true rfl) hf (fun h76 e77 hf => ?_)
          have hS := xS_si hS e77
          refine xw_G (pc' := 88) (st' := [.ref 302]) rfl rfl trivial ?_
          refine xw_gr rfl (xkf (xs_k hS rfl rfl : xm_k h76 302 = (11, 0))) (xs_r hS rfl) ?_
          refine xw_G (pc' := 92) (st' := [.int ((2057 : Int32) + ((4 : Int32) * (xm_i h70 303 2))), .ref 303]) rfl rfl trivial ?_
          refine xw_G (pc' := 93) (st' := [.int (2 : Int32), .int ((2057 : Int32) + ((4 : Int32) * (xm_i h70 303 2))), .ref 303]) rfl rfl trivial ?_
          refine xw_G (pc' := 94) (st' := [.int (((2057 : Int32) + ((4 : Int32) * (xm_i h70 303 2))) + (2 : Int32)), .ref 303]) rfl rfl trivial ?_
          refine xw_G (pc' := 95) (st' := [.int x2, .int (((2057 : Int32) + ((4 : Int32) * (xm_i h70 303 2))) + (2 : Int32)), .ref 303]) rfl rfl trivial ?_
          refine xg_e hf (fun hg78 hf => ?_)
          refine xa_i rfl (xkf (xs_k hS rfl rfl : xm_k h76 303 = (100, 2217))) (xkn (xs_k hS rfl rfl : xm_k h76 303 = (100, 2217))) hg78 (Nat.le_of_ble_eq_true rfl) hf (fun h79 e80 hf => ?_)
          have hS := xS_si hS e80
          refine xw_G (pc' := 97) (st' := [.ref 302]) rfl rfl trivial ?_
          refine xw_gr rfl (xkf (xs_k hS rfl rfl : xm_k h79 302 = (11, 0))) (xs_r hS rfl) ?_
          refine xw_G (pc' := 101) (st' := [.int ((2057 : Int32) + ((4 : Int32) * (xm_i h70 303 2))), .ref 303]) rfl rfl trivial ?_
          refine xw_G (pc' := 102) (st' := [.int (3 : Int32), .int ((2057 : Int32) + ((4 : Int32) * (xm_i h70 303 2))), .ref 303]) rfl rfl trivial ?_
          refine xw_G (pc' := 103) (st' := [.int (((2057 : Int32) + ((4 : Int32) * (xm_i h70 303 2))) + (3 : Int32)), .ref 303]) rfl rfl trivial ?_
          refine xw_G (pc' := 104) (st' := [.ref 302, .int (((2057 : Int32) + ((4 : Int32) * (xm_i h70 303 2))) + (3 : Int32)), .ref 303]) rfl rfl trivial ?_
          refine xw_gr rfl (xkf (xs_k hS rfl rfl : xm_k h79 302 = (11, 0))) (xs_r hS rfl) ?_
          refine xw_G (pc' := 108) (st' := [.int (1 : Int32), .ref 303, .int (((2057 : Int32) + ((4 : Int32) * (xm_i h70 303 2))) + (3 : Int32)), .ref 303]) rfl rfl trivial ?_
          refine xa_ld (t := 100) (τ := 0) (v := .int (xm_i h79 303 1)) rfl rfl (xkf (xs_k hS rfl rfl : xm_k h79 303 = (100, 2217))) (xkn (xs_k hS rfl rfl : xm_k h79 303 = (100, 2217))) (by decide : xin (1 : Int32) 2217) rfl ?_
          refine xg_e hf (fun hg81 hf => ?_)
          refine xa_i rfl (xkf (xs_k hS rfl rfl : xm_k h79 303 = (100, 2217))) (xkn (xs_k hS rfl rfl : xm_k h79 303 = (100, 2217))) hg81 (Nat.le_of_ble_eq_true rfl) hf (fun h82 e83 hf => ?_)
          have hS := xS_si hS e83
          refine xw_G (pc' := 111) (st' := [.ref 302]) rfl rfl trivial ?_
          refine xw_gr rfl (xkf (xs_k hS rfl rfl : xm_k h82 302 = (11, 0))) (xs_r hS rfl) ?_
          refine xw_G (pc' := 115) (st' := [.int (2 : Int32), .ref 303]) rfl rfl trivial ?_
          refine xw_G (pc' := 116) (st' := [.int (2 : Int32), .ref 303, .int (2 : Int32), .ref 303]) rfl rfl ⟨rfl, rfl⟩ ?_
          refine xa_ld (t := 100) (τ := 0) (v := .int (xm_i h82 303 2)) rfl rfl (xkf (xs_k hS rfl rfl : xm_k h82 303 = (100, 2217))) (xkn (xs_k hS rfl rfl : xm_k h82 303 = (100, 2217))) (by decide : xin (2 : Int32) 2217) rfl ?_
          refine xw_G (pc' := 118) (st' := [.int (1 : Int32), .int (xm_i h82 303 2), .int (2 : Int32), .ref 303]) rfl rfl trivial ?_
          refine xw_G (pc' := 119) (st' := [.int ((xm_i h82 303 2) + (1 : Int32)), .int (2 : Int32), .ref 303]) rfl rfl trivial ?_
          refine xa_i rfl (xkf (xs_k hS rfl rfl : xm_k h82 303 = (100, 2217))) (xkn (xs_k hS rfl rfl : xm_k h82 303 = (100, 2217))) (by decide : xin (2 : Int32) 2217) (Nat.le_of_ble_eq_true rfl) hf (fun h84 e85 hf => ?_)
          have hS := xS_si hS e85
          refine xw_G (pc' := 121) (st' := [.ref 302]) rfl rfl trivial ?_
          refine xw_G (pc' := 122) (st' := [.ref 302, .ref 302]) rfl rfl trivial ?_
          refine xw_G (pc' := 123) (st' := [.ref 302, .ref 302, .ref 302]) rfl rfl trivial ?_
          refine xw_gr rfl (xkf (xs_k hS rfl rfl : xm_k h84 302 = (11, 0))) (xs_r hS rfl) ?_
          refine xw_G (pc' := 127) (st' := [.int (2 : Int32), .ref 303, .ref 302, .ref 302]) rfl rfl trivial ?_
          refine xa_ld (t := 100) (τ := 0) (v := .int (xm_i h84 303 2)) rfl rfl (xkf (xs_k hS rfl rfl : xm_k h84 303 = (100, 2217))) (xkn (xs_k hS rfl rfl : xm_k h84 303 = (100, 2217))) (by decide : xin (2 : Int32) 2217) rfl ?_
          refine xw_G (pc' := 129) (st' := [.int (1 : Int32), .int (xm_i h84 303 2), .ref 302, .ref 302]) rfl rfl trivial ?_
          refine xw_G (pc' := 130) (st' := [.int ((xm_i h84 303 2) - (1 : Int32)), .ref 302, .ref 302]) rfl rfl trivial ?_
          refine xb_e hf (fun v86 h87 e88 hf => ?_)
          refine xw_V (v := some (.int v86)) rfl rfl (xkf (xs_k hS rfl rfl : xm_k h84 302 = (11, 0))) (Nat.le_of_ble_eq_true rfl) (Nat.le_of_ble_eq_true rfl) (xm_Rn_le (Nat.le_of_ble_eq_true rfl) (t_X11_lastOf  hS e88).1) ?_
          have hS := (t_X11_lastOf  hS e88).2
          show xm_W _ _ _ 133 _ [.int v86, .ref 302] _
          refine xb_e hf (fun v89 h90 e91 hf => ?_)
          refine xw_V (v := some (.int v89)) rfl rfl (xkf (xs_k hS rfl rfl : xm_k h87 302 = (11, 0))) (Nat.le_of_ble_eq_true rfl) (Nat.le_of_ble_eq_true rfl) (xm_Rn_le (Nat.le_of_ble_eq_true rfl) (t_X11_campaignAt  hS e91).1) ?_
          have hS := (t_X11_campaignAt  hS e91).2
          show xm_W _ _ _ 136 _ [.int v89] _
          exact xr_i (inj := xji) rfl rfl rfl rfl hf hQ hS
      · refine xw_G (pc' := 41) (st' := [.int (0 : Int32), .int (0 : Int32), .ref 302]) rfl rfl trivial ?_
        refine xb_e hf (fun v92 h93 e94 hf => ?_)
        refine xw_V (v := some (.int v92)) rfl rfl (xkf (xs_k hS rfl rfl : xm_k h61 302 = (11, 0))) (Nat.le_of_ble_eq_true rfl) (Nat.le_of_ble_eq_true rfl) (xm_Rn_le (Nat.le_of_ble_eq_true rfl) (t_X11_good_  hS e94).1) ?_
        have hS := (t_X11_good_  hS e94).2
        show xm_W _ _ _ 44 _ [.int v92] _
        refine xj_if_ne rfl hf (fun hc95 hf => ?_) (fun hc95 hf => ?_)
        · refine xw_G (pc' := 48) (st' := [.int (0 : Int32)]) rfl rfl trivial ?_
          exact xr_i (inj := xji) rfl rfl rfl rfl hf hQ hS
        · refine xw_G (pc' := 50) (st' := [.ref 302]) rfl rfl trivial ?_
          refine xb_e hf (fun v96 h97 e98 hf => ?_)
          refine xw_V (v := none) rfl rfl (xkf (xs_k hS rfl rfl : xm_k h93 302 = (11, 0))) (Nat.le_of_ble_eq_true rfl) (Nat.le_of_ble_eq_true rfl) (xm_Rn_le (Nat.le_of_ble_eq_true rfl) (t_X11_remember  hS e98).1) ?_
          have hS := (t_X11_remember  hS e98).2
          show xm_W _ _ _ 53 _ [] _
          refine xw_G (pc' := 56) (st' := [.int (2057 : Int32)]) rfl rfl trivial ?_
          refine xw_G (pc' := 57) (st' := [.int (4 : Int32), .int (2057 : Int32)]) rfl rfl trivial ?_
          refine xw_G (pc' := 58) (st' := [.ref 302, .int (4 : Int32), .int (2057 : Int32)]) rfl rfl trivial ?_
          refine xw_gr rfl (xkf (xs_k hS rfl rfl : xm_k h97 302 = (11, 0))) (xs_r hS rfl) ?_
          refine xw_G (pc' := 62) (st' := [.int (2 : Int32), .ref 303, .int (4 : Int32), .int (2057 : Int32)]) rfl rfl trivial ?_
          refine xa_ld (t := 100) (τ := 0) (v := .int (xm_i h97 303 2)) rfl rfl (xkf (xs_k hS rfl rfl : xm_k h97 303 = (100, 2217))) (xkn (xs_k hS rfl rfl : xm_k h97 303 = (100, 2217))) (by decide : xin (2 : Int32) 2217) rfl ?_
          refine xw_G (pc' := 64) (st' := [.int ((4 : Int32) * (xm_i h97 303 2)), .int (2057 : Int32)]) rfl rfl trivial ?_
          refine xw_G (pc' := 65) (st' := [.int ((2057 : Int32) + ((4 : Int32) * (xm_i h97 303 2)))]) rfl rfl trivial ?_
          refine xw_G (pc' := 66) (ls' := [some (.ref 302), some (.int x1), some (.int x2), some (.int ((2057 : Int32) + ((4 : Int32) * (xm_i h97 303 2))))]) (st' := []) rfl rfl (Nat.le_of_ble_eq_true rfl) ?_
          refine xw_G (pc' := 67) (st' := [.ref 302]) rfl rfl trivial ?_
          refine xw_gr rfl (xkf (xs_k hS rfl rfl : xm_k h97 302 = (11, 0))) (xs_r hS rfl) ?_
          refine xw_G (pc' := 71) (st' := [.int ((2057 : Int32) + ((4 : Int32) * (xm_i h97 303 2))), .ref 303]) rfl rfl trivial ?_
          refine xw_G (pc' := 72) (st' := [.ref 302, .int ((2057 : Int32) + ((4 : Int32) * (xm_i h97 303 2))), .ref 303]) rfl rfl trivial ?_
          refine xw_gr rfl (xkf (xs_k hS rfl rfl : xm_k h97 302 = (11, 0))) (xs_r hS rfl) ?_
          refine xw_G (pc' := 76) (st' := [.int (0 : Int32), .ref 303, .int ((2057 : Int32) + ((4 : Int32) * (xm_i h97 303 2))), .ref 303]) rfl rfl trivial ?_
          refine xa_ld (t := 100) (τ := 0) (v := .int (xm_i h97 303 0)) rfl rfl (xkf (xs_k hS rfl rfl : xm_k h97 303 = (100, 2217))) (xkn (xs_k hS rfl rfl : xm_k h97 303 = (100, 2217))) (by decide : xin (0 : Int32) 2217) rfl ?_
          refine xg_e hf (fun hg99 hf => ?_)
          refine xa_i rfl (xkf (xs_k hS rfl rfl : xm_k h97 303 = (100, 2217))) (xkn (xs_k hS rfl rfl : xm_k h97 303 = (100, 2217))) hg99 (Nat.le_of_ble_eq_true rfl) hf (fun h100 e101 hf => ?_)
          have hS := xS_si hS e101
          refine xw_G (pc' := 79) (st' := [.ref 302]) rfl rfl trivial ?_
          refine xw_gr rfl (xkf (xs_k hS rfl rfl : xm_k h100 302 = (11, 0))) (xs_r hS rfl) ?_
          refine xw_G (pc' := 83) (st' := [.int ((2057 : Int32) + ((4 : Int32) * (xm_i h97 303 2))), .ref 303]) rfl rfl trivial ?_
          refine xw_G (pc' := 84) (st' := [.int (1 : Int32), .int ((2057 : Int32) + ((4 : Int32) * (xm_i h97 303 2))), .ref 303]) rfl rfl trivial ?_
          refine xw_G (pc' := 85) (st' := [.int (((2057 : Int32) + ((4 : Int32) * (xm_i h97 303 2))) + (1 : Int32)), .ref 303]) rfl rfl trivial ?_
          refine xw_G (pc' := 86) (st' := [.int x1, .int (((2057 : Int32) + ((4 : Int32) * (xm_i h97 303 2))) + (1 : Int32)), .ref 303]) rfl rfl trivial ?_
          refine xg_e hf (fun hg102 hf => ?_)
          refine xa_i rfl (xkf (xs_k hS rfl rfl : xm_k h100 303 = (100, 2217))) (xkn (xs_k hS rfl rfl : xm_k h100 303 = (100, 2217))) hg102 (Nat.le_of_ble_eq_true rfl) hf (fun h103 e104 hf => ?_)
          have hS := xS_si hS e104
          refine xw_G (pc' := 88) (st' := [.ref 302]) rfl rfl trivial ?_
          refine xw_gr rfl (xkf (xs_k hS rfl rfl : xm_k h103 302 = (11, 0))) (xs_r hS rfl) ?_
          refine xw_G (pc' := 92) (st' := [.int ((2057 : Int32) + ((4 : Int32) * (xm_i h97 303 2))), .ref 303]) rfl rfl trivial ?_
          refine xw_G (pc' := 93) (st' := [.int (2 : Int32), .int ((2057 : Int32) + ((4 : Int32) * (xm_i h97 303 2))), .ref 303]) rfl rfl trivial ?_
          refine xw_G (pc' := 94) (st' := [.int (((2057 : Int32) + ((4 : Int32) * (xm_i h97 303 2))) + (2 : Int32)), .ref 303]) rfl rfl trivial ?_
          refine xw_G (pc' := 95) (st' := [.int x2, .int (((2057 : Int32) + ((4 : Int32) * (xm_i h97 303 2))) + (2 : Int32)), .ref 303]) rfl rfl trivial ?_
          refine xg_e hf (fun hg105 hf => ?_)
          refine xa_i rfl (xkf (xs_k hS rfl rfl : xm_k h103 303 = (100, 2217))) (xkn (xs_k hS rfl rfl : xm_k h103 303 = (100, 2217))) hg105 (Nat.le_of_ble_eq_true rfl) hf (fun h106 e107 hf => ?_)
          have hS := xS_si hS e107
          refine xw_G (pc' := 97) (st' := [.ref 302]) rfl rfl trivial ?_
          refine xw_gr rfl (xkf (xs_k hS rfl rfl : xm_k h106 302 = (11, 0))) (xs_r hS rfl) ?_
          refine xw_G (pc' := 101) (st' := [.int ((2057 : Int32) + ((4 : Int32) * (xm_i h97 303 2))), .ref 303]) rfl rfl trivial ?_
          refine xw_G (pc' := 102) (st' := [.int (3 : Int32), .int ((2057 : Int32) + ((4 : Int32) * (xm_i h97 303 2))), .ref 303]) rfl rfl trivial ?_
          refine xw_G (pc' := 103) (st' := [.int (((2057 : Int32) + ((4 : Int32) * (xm_i h97 303 2))) + (3 : Int32)), .ref 303]) rfl rfl trivial ?_
          refine xw_G (pc' := 104) (st' := [.ref 302, .int (((2057 : Int32) + ((4 : Int32) * (xm_i h97 303 2))) + (3 : Int32)), .ref 303]) rfl rfl trivial ?_
          refine xw_gr rfl (xkf (xs_k hS rfl rfl : xm_k h106 302 = (11, 0))) (xs_r hS rfl) ?_
          refine xw_G (pc' := 108) (st' := [.int (1 : Int32), .ref 303, .int (((2057 : Int32) + ((4 : Int32) * (xm_i h97 303 2))) + (3 : Int32)), .ref 303]) rfl rfl trivial ?_
          refine xa_ld (t := 100) (τ := 0) (v := .int (xm_i h106 303 1)) rfl rfl (xkf (xs_k hS rfl rfl : xm_k h106 303 = (100, 2217))) (xkn (xs_k hS rfl rfl : xm_k h106 303 = (100, 2217))) (by decide : xin (1 : Int32) 2217) rfl ?_
          refine xg_e hf (fun hg108 hf => ?_)
          refine xa_i rfl (xkf (xs_k hS rfl rfl : xm_k h106 303 = (100, 2217))) (xkn (xs_k hS rfl rfl : xm_k h106 303 = (100, 2217))) hg108 (Nat.le_of_ble_eq_true rfl) hf (fun h109 e110 hf => ?_)
          have hS := xS_si hS e110
          refine xw_G (pc' := 111) (st' := [.ref 302]) rfl rfl trivial ?_
          refine xw_gr rfl (xkf (xs_k hS rfl rfl : xm_k h109 302 = (11, 0))) (xs_r hS rfl) ?_
          refine xw_G (pc' := 115) (st' := [.int (2 : Int32), .ref 303]) rfl rfl trivial ?_
          refine xw_G (pc' := 116) (st' := [.int (2 : Int32), .ref 303, .int (2 : Int32), .ref 303]) rfl rfl ⟨rfl, rfl⟩ ?_
          refine xa_ld (t := 100) (τ := 0) (v := .int (xm_i h109 303 2)) rfl rfl (xkf (xs_k hS rfl rfl : xm_k h109 303 = (100, 2217))) (xkn (xs_k hS rfl rfl : xm_k h109 303 = (100, 2217))) (by decide : xin (2 : Int32) 2217) rfl ?_
          refine xw_G (pc' := 118) (st' := [.int (1 : Int32), .int (xm_i h109 303 2), .int (2 : Int32), .ref 303]) rfl rfl trivial ?_
          refine xw_G (pc' := 119) (st' := [.int ((xm_i h109 303 2) + (1 : Int32)), .int (2 : Int32), .ref 303]) rfl rfl trivial ?_
          refine xa_i rfl (xkf (xs_k hS rfl rfl : xm_k h109 303 = (100, 2217))) (xkn (xs_k hS rfl rfl : xm_k h109 303 = (100, 2217))) (by decide : xin (2 : Int32) 2217) (Nat.le_of_ble_eq_true rfl) hf (fun h111 e112 hf => ?_)
          have hS := xS_si hS e112
          refine xw_G (pc' := 121) (st' := [.ref 302]) rfl rfl trivial ?_
          refine xw_G (pc' := 122) (st' := [.ref 302, .ref 302]) rfl rfl trivial ?_
          refine xw_G (pc' := 123) (st' := [.ref 302, .ref 302, .ref 302]) rfl rfl trivial ?_
          refine xw_gr rfl (xkf (xs_k hS rfl rfl : xm_k h111 302 = (11, 0))) (xs_r hS rfl) ?_
          refine xw_G (pc' := 127) (st' := [.int (2 : Int32), .ref 303, .ref 302, .ref 302]) rfl rfl trivial ?_
          refine xa_ld (t := 100) (τ := 0) (v := .int (xm_i h111 303 2)) rfl rfl (xkf (xs_k hS rfl rfl : xm_k h111 303 = (100, 2217))) (xkn (xs_k hS rfl rfl : xm_k h111 303 = (100, 2217))) (by decide : xin (2 : Int32) 2217) rfl ?_
          refine xw_G (pc' := 129) (st' := [.int (1 : Int32), .int (xm_i h111 303 2), .ref 302, .ref 302]) rfl rfl trivial ?_
          refine xw_G (pc' := 130) (st' := [.int ((xm_i h111 303 2) - (1 : Int32)), .ref 302, .ref 302]) rfl rfl trivial ?_
          refine xb_e hf (fun v113 h114 e115 hf => ?_)
          refine xw_V (v := some (.int v113)) rfl rfl (xkf (xs_k hS rfl rfl : xm_k h111 302 = (11, 0))) (Nat.le_of_ble_eq_true rfl) (Nat.le_of_ble_eq_true rfl) (xm_Rn_le (Nat.le_of_ble_eq_true rfl) (t_X11_lastOf  hS e115).1) ?_
          have hS := (t_X11_lastOf  hS e115).2
          show xm_W _ _ _ 133 _ [.int v113, .ref 302] _
          refine xb_e hf (fun v116 h117 e118 hf => ?_)
          refine xw_V (v := some (.int v116)) rfl rfl (xkf (xs_k hS rfl rfl : xm_k h114 302 = (11, 0))) (Nat.le_of_ble_eq_true rfl) (Nat.le_of_ble_eq_true rfl) (xm_Rn_le (Nat.le_of_ble_eq_true rfl) (t_X11_campaignAt  hS e118).1) ?_
          have hS := (t_X11_campaignAt  hS e118).2
          show xm_W _ _ _ 136 _ [.int v116] _
          exact xr_i (inj := xji) rfl rfl rfl rfl hf hQ hS
    · refine xw_G (pc' := 21) (st' := [.int (1 : Int32), .ref 302]) rfl rfl trivial ?_
      refine xw_G (pc' := 25) (st' := [.int (1 : Int32), .ref 302]) rfl rfl trivial ?_
      refine xw_G (pc' := 26) (st' := [.ref 302, .int (1 : Int32), .ref 302]) rfl rfl trivial ?_
      refine xw_gr rfl (xkf (xs_k hS rfl rfl : xm_k h61 302 = (11, 0))) (xs_r hS rfl) ?_
      refine xw_G (pc' := 30) (st' := [.int (2 : Int32), .ref 303, .int (1 : Int32), .ref 302]) rfl rfl trivial ?_
      refine xa_ld (t := 100) (τ := 0) (v := .int (xm_i h61 303 2)) rfl rfl (xkf (xs_k hS rfl rfl : xm_k h61 303 = (100, 2217))) (xkn (xs_k hS rfl rfl : xm_k h61 303 = (100, 2217))) (by decide : xin (2 : Int32) 2217) rfl ?_
      refine xw_G (pc' := 33) (st' := [.int (40 : Int32), .int (xm_i h61 303 2), .int (1 : Int32), .ref 302]) rfl rfl trivial ?_
      refine xj_ic_ge rfl hf (fun hc119 hf => ?_) (fun hc119 hf => ?_)
      · refine xw_G (pc' := 37) (st' := [.int (1 : Int32), .int (1 : Int32), .ref 302]) rfl rfl trivial ?_
        refine xw_G (pc' := 41) (st' := [.int (1 : Int32), .int (1 : Int32), .ref 302]) rfl rfl trivial ?_
        refine xb_e hf (fun v120 h121 e122 hf => ?_)
        refine xw_V (v := some (.int v120)) rfl rfl (xkf (xs_k hS rfl rfl : xm_k h61 302 = (11, 0))) (Nat.le_of_ble_eq_true rfl) (Nat.le_of_ble_eq_true rfl) (xm_Rn_le (Nat.le_of_ble_eq_true rfl) (t_X11_good_  hS e122).1) ?_
        have hS := (t_X11_good_  hS e122).2
        show xm_W _ _ _ 44 _ [.int v120] _
        refine xj_if_ne rfl hf (fun hc123 hf => ?_) (fun hc123 hf => ?_)
        · refine xw_G (pc' := 48) (st' := [.int (0 : Int32)]) rfl rfl trivial ?_
          exact xr_i (inj := xji) rfl rfl rfl rfl hf hQ hS
        · refine xw_G (pc' := 50) (st' := [.ref 302]) rfl rfl trivial ?_
          refine xb_e hf (fun v124 h125 e126 hf => ?_)
          refine xw_V (v := none) rfl rfl (xkf (xs_k hS rfl rfl : xm_k h121 302 = (11, 0))) (Nat.le_of_ble_eq_true rfl) (Nat.le_of_ble_eq_true rfl) (xm_Rn_le (Nat.le_of_ble_eq_true rfl) (t_X11_remember  hS e126).1) ?_
          have hS := (t_X11_remember  hS e126).2
          show xm_W _ _ _ 53 _ [] _
          refine xw_G (pc' := 56) (st' := [.int (2057 : Int32)]) rfl rfl trivial ?_
          refine xw_G (pc' := 57) (st' := [.int (4 : Int32), .int (2057 : Int32)]) rfl rfl trivial ?_
          refine xw_G (pc' := 58) (st' := [.ref 302, .int (4 : Int32), .int (2057 : Int32)]) rfl rfl trivial ?_
          refine xw_gr rfl (xkf (xs_k hS rfl rfl : xm_k h125 302 = (11, 0))) (xs_r hS rfl) ?_
          refine xw_G (pc' := 62) (st' := [.int (2 : Int32), .ref 303, .int (4 : Int32), .int (2057 : Int32)]) rfl rfl trivial ?_
          refine xa_ld (t := 100) (τ := 0) (v := .int (xm_i h125 303 2)) rfl rfl (xkf (xs_k hS rfl rfl : xm_k h125 303 = (100, 2217))) (xkn (xs_k hS rfl rfl : xm_k h125 303 = (100, 2217))) (by decide : xin (2 : Int32) 2217) rfl ?_
          refine xw_G (pc' := 64) (st' := [.int ((4 : Int32) * (xm_i h125 303 2)), .int (2057 : Int32)]) rfl rfl trivial ?_
          refine xw_G (pc' := 65) (st' := [.int ((2057 : Int32) + ((4 : Int32) * (xm_i h125 303 2)))]) rfl rfl trivial ?_
          refine xw_G (pc' := 66) (ls' := [some (.ref 302), some (.int x1), some (.int x2), some (.int ((2057 : Int32) + ((4 : Int32) * (xm_i h125 303 2))))]) (st' := []) rfl rfl (Nat.le_of_ble_eq_true rfl) ?_
          refine xw_G (pc' := 67) (st' := [.ref 302]) rfl rfl trivial ?_
          refine xw_gr rfl (xkf (xs_k hS rfl rfl : xm_k h125 302 = (11, 0))) (xs_r hS rfl) ?_
          refine xw_G (pc' := 71) (st' := [.int ((2057 : Int32) + ((4 : Int32) * (xm_i h125 303 2))), .ref 303]) rfl rfl trivial ?_
          refine xw_G (pc' := 72) (st' := [.ref 302, .int ((2057 : Int32) + ((4 : Int32) * (xm_i h125 303 2))), .ref 303]) rfl rfl trivial ?_
          refine xw_gr rfl (xkf (xs_k hS rfl rfl : xm_k h125 302 = (11, 0))) (xs_r hS rfl) ?_
          refine xw_G (pc' := 76) (st' := [.int (0 : Int32), .ref 303, .int ((2057 : Int32) + ((4 : Int32) * (xm_i h125 303 2))), .ref 303]) rfl rfl trivial ?_
          refine xa_ld (t := 100) (τ := 0) (v := .int (xm_i h125 303 0)) rfl rfl (xkf (xs_k hS rfl rfl : xm_k h125 303 = (100, 2217))) (xkn (xs_k hS rfl rfl : xm_k h125 303 = (100, 2217))) (by decide : xin (0 : Int32) 2217) rfl ?_
          refine xg_e hf (fun hg127 hf => ?_)
          refine xa_i rfl (xkf (xs_k hS rfl rfl : xm_k h125 303 = (100, 2217))) (xkn (xs_k hS rfl rfl : xm_k h125 303 = (100, 2217))) hg127 (Nat.le_of_ble_eq_true rfl) hf (fun h128 e129 hf => ?_)
          have hS := xS_si hS e129
          refine xw_G (pc' := 79) (st' := [.ref 302]) rfl rfl trivial ?_
          refine xw_gr rfl (xkf (xs_k hS rfl rfl : xm_k h128 302 = (11, 0))) (xs_r hS rfl) ?_
          refine xw_G (pc' := 83) (st' := [.int ((2057 : Int32) + ((4 : Int32) * (xm_i h125 303 2))), .ref 303]) rfl rfl trivial ?_
          refine xw_G (pc' := 84) (st' := [.int (1 : Int32), .int ((2057 : Int32) + ((4 : Int32) * (xm_i h125 303 2))), .ref 303]) rfl rfl trivial ?_
          refine xw_G (pc' := 85) (st' := [.int (((2057 : Int32) + ((4 : Int32) * (xm_i h125 303 2))) + (1 : Int32)), .ref 303]) rfl rfl trivial ?_
          refine xw_G (pc' := 86) (st' := [.int x1, .int (((2057 : Int32) + ((4 : Int32) * (xm_i h125 303 2))) + (1 : Int32)), .ref 303]) rfl rfl trivial ?_
          refine xg_e hf (fun hg130 hf => ?_)
          refine xa_i rfl (xkf (xs_k hS rfl rfl : xm_k h128 303 = (100, 2217))) (xkn (xs_k hS rfl rfl : xm_k h128 303 = (100, 2217))) hg130 (Nat.le_of_ble_eq_true rfl) hf (fun h131 e132 hf => ?_)
          have hS := xS_si hS e132
          refine xw_G (pc' := 88) (st' := [.ref 302]) rfl rfl trivial ?_
          refine xw_gr rfl (xkf (xs_k hS rfl rfl : xm_k h131 302 = (11, 0))) (xs_r hS rfl) ?_
          refine xw_G (pc' := 92) (st' := [.int ((2057 : Int32) + ((4 : Int32) * (xm_i h125 303 2))), .ref 303]) rfl rfl trivial ?_
          refine xw_G (pc' := 93) (st' := [.int (2 : Int32), .int ((2057 : Int32) + ((4 : Int32) * (xm_i h125 303 2))), .ref 303]) rfl rfl trivial ?_
          refine xw_G (pc' := 94) (st' := [.int (((2057 : Int32) + ((4 : Int32) * (xm_i h125 303 2))) + (2 : Int32)), .ref 303]) rfl rfl trivial ?_
          refine xw_G (pc' := 95) (st' := [.int x2, .int (((2057 : Int32) + ((4 : Int32) * (xm_i h125 303 2))) + (2 : Int32)), .ref 303]) rfl rfl trivial ?_
          refine xg_e hf (fun hg133 hf => ?_)
          refine xa_i rfl (xkf (xs_k hS rfl rfl : xm_k h131 303 = (100, 2217))) (xkn (xs_k hS rfl rfl : xm_k h131 303 = (100, 2217))) hg133 (Nat.le_of_ble_eq_true rfl) hf (fun h134 e135 hf => ?_)
          have hS := xS_si hS e135
          refine xw_G (pc' := 97) (st' := [.ref 302]) rfl rfl trivial ?_
          refine xw_gr rfl (xkf (xs_k hS rfl rfl : xm_k h134 302 = (11, 0))) (xs_r hS rfl) ?_
          refine xw_G (pc' := 101) (st' := [.int ((2057 : Int32) + ((4 : Int32) * (xm_i h125 303 2))), .ref 303]) rfl rfl trivial ?_
          refine xw_G (pc' := 102) (st' := [.int (3 : Int32), .int ((2057 : Int32) + ((4 : Int32) * (xm_i h125 303 2))), .ref 303]) rfl rfl trivial ?_
          refine xw_G (pc' := 103) (st' := [.int (((2057 : Int32) + ((4 : Int32) * (xm_i h125 303 2))) + (3 : Int32)), .ref 303]) rfl rfl trivial ?_
          refine xw_G (pc' := 104) (st' := [.ref 302, .int (((2057 : Int32) + ((4 : Int32) * (xm_i h125 303 2))) + (3 : Int32)), .ref 303]) rfl rfl trivial ?_
          refine xw_gr rfl (xkf (xs_k hS rfl rfl : xm_k h134 302 = (11, 0))) (xs_r hS rfl) ?_
          refine xw_G (pc' := 108) (st' := [.int (1 : Int32), .ref 303, .int (((2057 : Int32) + ((4 : Int32) * (xm_i h125 303 2))) + (3 : Int32)), .ref 303]) rfl rfl trivial ?_
          refine xa_ld (t := 100) (τ := 0) (v := .int (xm_i h134 303 1)) rfl rfl (xkf (xs_k hS rfl rfl : xm_k h134 303 = (100, 2217))) (xkn (xs_k hS rfl rfl : xm_k h134 303 = (100, 2217))) (by decide : xin (1 : Int32) 2217) rfl ?_
          refine xg_e hf (fun hg136 hf => ?_)
          refine xa_i rfl (xkf (xs_k hS rfl rfl : xm_k h134 303 = (100, 2217))) (xkn (xs_k hS rfl rfl : xm_k h134 303 = (100, 2217))) hg136 (Nat.le_of_ble_eq_true rfl) hf (fun h137 e138 hf => ?_)
          have hS := xS_si hS e138
          refine xw_G (pc' := 111) (st' := [.ref 302]) rfl rfl trivial ?_
          refine xw_gr rfl (xkf (xs_k hS rfl rfl : xm_k h137 302 = (11, 0))) (xs_r hS rfl) ?_
          refine xw_G (pc' := 115) (st' := [.int (2 : Int32), .ref 303]) rfl rfl trivial ?_
          refine xw_G (pc' := 116) (st' := [.int (2 : Int32), .ref 303, .int (2 : Int32), .ref 303]) rfl rfl ⟨rfl, rfl⟩ ?_
          refine xa_ld (t := 100) (τ := 0) (v := .int (xm_i h137 303 2)) rfl rfl (xkf (xs_k hS rfl rfl : xm_k h137 303 = (100, 2217))) (xkn (xs_k hS rfl rfl : xm_k h137 303 = (100, 2217))) (by decide : xin (2 : Int32) 2217) rfl ?_
          refine xw_G (pc' := 118) (st' := [.int (1 : Int32), .int (xm_i h137 303 2), .int (2 : Int32), .ref 303]) rfl rfl trivial ?_
          refine xw_G (pc' := 119) (st' := [.int ((xm_i h137 303 2) + (1 : Int32)), .int (2 : Int32), .ref 303]) rfl rfl trivial ?_
          refine xa_i rfl (xkf (xs_k hS rfl rfl : xm_k h137 303 = (100, 2217))) (xkn (xs_k hS rfl rfl : xm_k h137 303 = (100, 2217))) (by decide : xin (2 : Int32) 2217) (Nat.le_of_ble_eq_true rfl) hf (fun h139 e140 hf => ?_)
          have hS := xS_si hS e140
          refine xw_G (pc' := 121) (st' := [.ref 302]) rfl rfl trivial ?_
          refine xw_G (pc' := 122) (st' := [.ref 302, .ref 302]) rfl rfl trivial ?_
          refine xw_G (pc' := 123) (st' := [.ref 302, .ref 302, .ref 302]) rfl rfl trivial ?_
          refine xw_gr rfl (xkf (xs_k hS rfl rfl : xm_k h139 302 = (11, 0))) (xs_r hS rfl) ?_
          refine xw_G (pc' := 127) (st' := [.int (2 : Int32), .ref 303, .ref 302, .ref 302]) rfl rfl trivial ?_
          refine xa_ld (t := 100) (τ := 0) (v := .int (xm_i h139 303 2)) rfl rfl (xkf (xs_k hS rfl rfl : xm_k h139 303 = (100, 2217))) (xkn (xs_k hS rfl rfl : xm_k h139 303 = (100, 2217))) (by decide : xin (2 : Int32) 2217) rfl ?_
          refine xw_G (pc' := 129) (st' := [.int (1 : Int32), .int (xm_i h139 303 2), .ref 302, .ref 302]) rfl rfl trivial ?_
          refine xw_G (pc' := 130) (st' := [.int ((xm_i h139 303 2) - (1 : Int32)), .ref 302, .ref 302]) rfl rfl trivial ?_
          refine xb_e hf (fun v141 h142 e143 hf => ?_)
          refine xw_V (v := some (.int v141)) rfl rfl (xkf (xs_k hS rfl rfl : xm_k h139 302 = (11, 0))) (Nat.le_of_ble_eq_true rfl) (Nat.le_of_ble_eq_true rfl) (xm_Rn_le (Nat.le_of_ble_eq_true rfl) (t_X11_lastOf  hS e143).1) ?_
          have hS := (t_X11_lastOf  hS e143).2
          show xm_W _ _ _ 133 _ [.int v141, .ref 302] _
          refine xb_e hf (fun v144 h145 e146 hf => ?_)
          refine xw_V (v := some (.int v144)) rfl rfl (xkf (xs_k hS rfl rfl : xm_k h142 302 = (11, 0))) (Nat.le_of_ble_eq_true rfl) (Nat.le_of_ble_eq_true rfl) (xm_Rn_le (Nat.le_of_ble_eq_true rfl) (t_X11_campaignAt  hS e146).1) ?_
          have hS := (t_X11_campaignAt  hS e146).2
          show xm_W _ _ _ 136 _ [.int v144] _
          exact xr_i (inj := xji) rfl rfl rfl rfl hf hQ hS
      · refine xw_G (pc' := 41) (st' := [.int (0 : Int32), .int (1 : Int32), .ref 302]) rfl rfl trivial ?_
        refine xb_e hf (fun v147 h148 e149 hf => ?_)
        refine xw_V (v := some (.int v147)) rfl rfl (xkf (xs_k hS rfl rfl : xm_k h61 302 = (11, 0))) (Nat.le_of_ble_eq_true rfl) (Nat.le_of_ble_eq_true rfl) (xm_Rn_le (Nat.le_of_ble_eq_true rfl) (t_X11_good_  hS e149).1) ?_
        have hS := (t_X11_good_  hS e149).2
        show xm_W _ _ _ 44 _ [.int v147] _
        refine xj_if_ne rfl hf (fun hc150 hf => ?_) (fun hc150 hf => ?_)
        · refine xw_G (pc' := 48) (st' := [.int (0 : Int32)]) rfl rfl trivial ?_
          exact xr_i (inj := xji) rfl rfl rfl rfl hf hQ hS
        · refine xw_G (pc' := 50) (st' := [.ref 302]) rfl rfl trivial ?_
          refine xb_e hf (fun v151 h152 e153 hf => ?_)
          refine xw_V (v := none) rfl rfl (xkf (xs_k hS rfl rfl : xm_k h148 302 = (11, 0))) (Nat.le_of_ble_eq_true rfl) (Nat.le_of_ble_eq_true rfl) (xm_Rn_le (Nat.le_of_ble_eq_true rfl) (t_X11_remember  hS e153).1) ?_
          have hS := (t_X11_remember  hS e153).2
          show xm_W _ _ _ 53 _ [] _
          refine xw_G (pc' := 56) (st' := [.int (2057 : Int32)]) rfl rfl trivial ?_
          refine xw_G (pc' := 57) (st' := [.int (4 : Int32), .int (2057 : Int32)]) rfl rfl trivial ?_
          refine xw_G (pc' := 58) (st' := [.ref 302, .int (4 : Int32), .int (2057 : Int32)]) rfl rfl trivial ?_
          refine xw_gr rfl (xkf (xs_k hS rfl rfl : xm_k h152 302 = (11, 0))) (xs_r hS rfl) ?_
          refine xw_G (pc' := 62) (st' := [.int (2 : Int32), .ref 303, .int (4 : Int32), .int (2057 : Int32)]) rfl rfl trivial ?_
          refine xa_ld (t := 100) (τ := 0) (v := .int (xm_i h152 303 2)) rfl rfl (xkf (xs_k hS rfl rfl : xm_k h152 303 = (100, 2217))) (xkn (xs_k hS rfl rfl : xm_k h152 303 = (100, 2217))) (by decide : xin (2 : Int32) 2217) rfl ?_
          refine xw_G (pc' := 64) (st' := [.int ((4 : Int32) * (xm_i h152 303 2)), .int (2057 : Int32)]) rfl rfl trivial ?_
          refine xw_G (pc' := 65) (st' := [.int ((2057 : Int32) + ((4 : Int32) * (xm_i h152 303 2)))]) rfl rfl trivial ?_
          refine xw_G (pc' := 66) (ls' := [some (.ref 302), some (.int x1), some (.int x2), some (.int ((2057 : Int32) + ((4 : Int32) * (xm_i h152 303 2))))]) (st' := []) rfl rfl (Nat.le_of_ble_eq_true rfl) ?_
          refine xw_G (pc' := 67) (st' := [.ref 302]) rfl rfl trivial ?_
          refine xw_gr rfl (xkf (xs_k hS rfl rfl : xm_k h152 302 = (11, 0))) (xs_r hS rfl) ?_
          refine xw_G (pc' := 71) (st' := [.int ((2057 : Int32) + ((4 : Int32) * (xm_i h152 303 2))), .ref 303]) rfl rfl trivial ?_
          refine xw_G (pc' := 72) (st' := [.ref 302, .int ((2057 : Int32) + ((4 : Int32) * (xm_i h152 303 2))), .ref 303]) rfl rfl trivial ?_
          refine xw_gr rfl (xkf (xs_k hS rfl rfl : xm_k h152 302 = (11, 0))) (xs_r hS rfl) ?_
          refine xw_G (pc' := 76) (st' := [.int (0 : Int32), .ref 303, .int ((2057 : Int32) + ((4 : Int32) * (xm_i h152 303 2))), .ref 303]) rfl rfl trivial ?_
          refine xa_ld (t := 100) (τ := 0) (v := .int (xm_i h152 303 0)) rfl rfl (xkf (xs_k hS rfl rfl : xm_k h152 303 = (100, 2217))) (xkn (xs_k hS rfl rfl : xm_k h152 303 = (100, 2217))) (by decide : xin (0 : Int32) 2217) rfl ?_
          refine xg_e hf (fun hg154 hf => ?_)
          refine xa_i rfl (xkf (xs_k hS rfl rfl : xm_k h152 303 = (100, 2217))) (xkn (xs_k hS rfl rfl : xm_k h152 303 = (100, 2217))) hg154 (Nat.le_of_ble_eq_true rfl) hf (fun h155 e156 hf => ?_)
          have hS := xS_si hS e156
          refine xw_G (pc' := 79) (st' := [.ref 302]) rfl rfl trivial ?_
          refine xw_gr rfl (xkf (xs_k hS rfl rfl : xm_k h155 302 = (11, 0))) (xs_r hS rfl) ?_
          refine xw_G (pc' := 83) (st' := [.int ((2057 : Int32) + ((4 : Int32) * (xm_i h152 303 2))), .ref 303]) rfl rfl trivial ?_
          refine xw_G (pc' := 84) (st' := [.int (1 : Int32), .int ((2057 : Int32) + ((4 : Int32) * (xm_i h152 303 2))), .ref 303]) rfl rfl trivial ?_
          refine xw_G (pc' := 85) (st' := [.int (((2057 : Int32) + ((4 : Int32) * (xm_i h152 303 2))) + (1 : Int32)), .ref 303]) rfl rfl trivial ?_
          refine xw_G (pc' := 86) (st' := [.int x1, .int (((2057 : Int32) + ((4 : Int32) * (xm_i h152 303 2))) + (1 : Int32)), .ref 303]) rfl rfl trivial ?_
          refine xg_e hf (fun hg157 hf => ?_)
          refine xa_i rfl (xkf (xs_k hS rfl rfl : xm_k h155 303 = (100, 2217))) (xkn (xs_k hS rfl rfl : xm_k h155 303 = (100, 2217))) hg157 (Nat.le_of_ble_eq_true rfl) hf (fun h158 e159 hf => ?_)
          have hS := xS_si hS e159
          refine xw_G (pc' := 88) (st' := [.ref 302]) rfl rfl trivial ?_
          refine xw_gr rfl (xkf (xs_k hS rfl rfl : xm_k h158 302 = (11, 0))) (xs_r hS rfl) ?_
          refine xw_G (pc' := 92) (st' := [.int ((2057 : Int32) + ((4 : Int32) * (xm_i h152 303 2))), .ref 303]) rfl rfl trivial ?_
          refine xw_G (pc' := 93) (st' := [.int (2 : Int32), .int ((2057 : Int32) + ((4 : Int32) * (xm_i h152 303 2))), .ref 303]) rfl rfl trivial ?_
          refine xw_G (pc' := 94) (st' := [.int (((2057 : Int32) + ((4 : Int32) * (xm_i h152 303 2))) + (2 : Int32)), .ref 303]) rfl rfl trivial ?_
          refine xw_G (pc' := 95) (st' := [.int x2, .int (((2057 : Int32) + ((4 : Int32) * (xm_i h152 303 2))) + (2 : Int32)), .ref 303]) rfl rfl trivial ?_
          refine xg_e hf (fun hg160 hf => ?_)
          refine xa_i rfl (xkf (xs_k hS rfl rfl : xm_k h158 303 = (100, 2217))) (xkn (xs_k hS rfl rfl : xm_k h158 303 = (100, 2217))) hg160 (Nat.le_of_ble_eq_true rfl) hf (fun h161 e162 hf => ?_)
          have hS := xS_si hS e162
          refine xw_G (pc' := 97) (st' := [.ref 302]) rfl rfl trivial ?_
          refine xw_gr rfl (xkf (xs_k hS rfl rfl : xm_k h161 302 = (11, 0))) (xs_r hS rfl) ?_
          refine xw_G (pc' := 101) (st' := [.int ((2057 : Int32) + ((4 : Int32) * (xm_i h152 303 2))), .ref 303]) rfl rfl trivial ?_
          refine xw_G (pc' := 102) (st' := [.int (3 : Int32), .int ((2057 : Int32) + ((4 : Int32) * (xm_i h152 303 2))), .ref 303]) rfl rfl trivial ?_
          refine xw_G (pc' := 103) (st' := [.int (((2057 : Int32) + ((4 : Int32) * (xm_i h152 303 2))) + (3 : Int32)), .ref 303]) rfl rfl trivial ?_
          refine xw_G (pc' := 104) (st' := [.ref 302, .int (((2057 : Int32) + ((4 : Int32) * (xm_i h152 303 2))) + (3 : Int32)), .ref 303]) rfl rfl trivial ?_
          refine xw_gr rfl (xkf (xs_k hS rfl rfl : xm_k h161 302 = (11, 0))) (xs_r hS rfl) ?_
          refine xw_G (pc' := 108) (st' := [.int (1 : Int32), .ref 303, .int (((2057 : Int32) + ((4 : Int32) * (xm_i h152 303 2))) + (3 : Int32)), .ref 303]) rfl rfl trivial ?_
          refine xa_ld (t := 100) (τ := 0) (v := .int (xm_i h161 303 1)) rfl rfl (xkf (xs_k hS rfl rfl : xm_k h161 303 = (100, 2217))) (xkn (xs_k hS rfl rfl : xm_k h161 303 = (100, 2217))) (by decide : xin (1 : Int32) 2217) rfl ?_
          refine xg_e hf (fun hg163 hf => ?_)
          refine xa_i rfl (xkf (xs_k hS rfl rfl : xm_k h161 303 = (100, 2217))) (xkn (xs_k hS rfl rfl : xm_k h161 303 = (100, 2217))) hg163 (Nat.le_of_ble_eq_true rfl) hf (fun h164 e165 hf => ?_)
          have hS := xS_si hS e165
          refine xw_G (pc' := 111) (st' := [.ref 302]) rfl rfl trivial ?_
          refine xw_gr rfl (xkf (xs_k hS rfl rfl : xm_k h164 302 = (11, 0))) (xs_r hS rfl) ?_
          refine xw_G (pc' := 115) (st' := [.int (2 : Int32), .ref 303]) rfl rfl trivial ?_
          refine xw_G (pc' := 116) (st' := [.int (2 : Int32), .ref 303, .int (2 : Int32), .ref 303]) rfl rfl ⟨rfl, rfl⟩ ?_
          refine xa_ld (t := 100) (τ := 0) (v := .int (xm_i h164 303 2)) rfl rfl (xkf (xs_k hS rfl rfl : xm_k h164 303 = (100, 2217))) (xkn (xs_k hS rfl rfl : xm_k h164 303 = (100, 2217))) (by decide : xin (2 : Int32) 2217) rfl ?_
          refine xw_G (pc' := 118) (st' := [.int (1 : Int32), .int (xm_i h164 303 2), .int (2 : Int32), .ref 303]) rfl rfl trivial ?_
          refine xw_G (pc' := 119) (st' := [.int ((xm_i h164 303 2) + (1 : Int32)), .int (2 : Int32), .ref 303]) rfl rfl trivial ?_
          refine xa_i rfl (xkf (xs_k hS rfl rfl : xm_k h164 303 = (100, 2217))) (xkn (xs_k hS rfl rfl : xm_k h164 303 = (100, 2217))) (by decide : xin (2 : Int32) 2217) (Nat.le_of_ble_eq_true rfl) hf (fun h166 e167 hf => ?_)
          have hS := xS_si hS e167
          refine xw_G (pc' := 121) (st' := [.ref 302]) rfl rfl trivial ?_
          refine xw_G (pc' := 122) (st' := [.ref 302, .ref 302]) rfl rfl trivial ?_
          refine xw_G (pc' := 123) (st' := [.ref 302, .ref 302, .ref 302]) rfl rfl trivial ?_
          refine xw_gr rfl (xkf (xs_k hS rfl rfl : xm_k h166 302 = (11, 0))) (xs_r hS rfl) ?_
          refine xw_G (pc' := 127) (st' := [.int (2 : Int32), .ref 303, .ref 302, .ref 302]) rfl rfl trivial ?_
          refine xa_ld (t := 100) (τ := 0) (v := .int (xm_i h166 303 2)) rfl rfl (xkf (xs_k hS rfl rfl : xm_k h166 303 = (100, 2217))) (xkn (xs_k hS rfl rfl : xm_k h166 303 = (100, 2217))) (by decide : xin (2 : Int32) 2217) rfl ?_
          refine xw_G (pc' := 129) (st' := [.int (1 : Int32), .int (xm_i h166 303 2), .ref 302, .ref 302]) rfl rfl trivial ?_
          refine xw_G (pc' := 130) (st' := [.int ((xm_i h166 303 2) - (1 : Int32)), .ref 302, .ref 302]) rfl rfl trivial ?_
          refine xb_e hf (fun v168 h169 e170 hf => ?_)
          refine xw_V (v := some (.int v168)) rfl rfl (xkf (xs_k hS rfl rfl : xm_k h166 302 = (11, 0))) (Nat.le_of_ble_eq_true rfl) (Nat.le_of_ble_eq_true rfl) (xm_Rn_le (Nat.le_of_ble_eq_true rfl) (t_X11_lastOf  hS e170).1) ?_
          have hS := (t_X11_lastOf  hS e170).2
          show xm_W _ _ _ 133 _ [.int v168, .ref 302] _
          refine xb_e hf (fun v171 h172 e173 hf => ?_)
          refine xw_V (v := some (.int v171)) rfl rfl (xkf (xs_k hS rfl rfl : xm_k h169 302 = (11, 0))) (Nat.le_of_ble_eq_true rfl) (Nat.le_of_ble_eq_true rfl) (xm_Rn_le (Nat.le_of_ble_eq_true rfl) (t_X11_campaignAt  hS e173).1) ?_
          have hS := (t_X11_campaignAt  hS e173).2
          show xm_W _ _ _ 136 _ [.int v171] _
          exact xr_i (inj := xji) rfl rfl rfl rfl hf hQ hS
