/-! printed by wip/gen/gen23.py: methods as functions of their arguments and the heap -/
def f_X9_append_3B (N : Nat) (c1 : Int32) (rec : Int32 → xm_H → Option (Unit × xm_H)) (c2 : Int32) (h : xm_H) : Option (Unit × xm_H) := (if c2 < 0 then (some ((), h)) else (if (xm_i h 162 1) < (600 : Int32) then (if xin (xm_i h 162 1) 600 then (xl (xm_si h 163 (Int32.toNatClampNeg (xm_i h 162 1)) (vp_nar .char (((Int32.toUInt32 ((((Int32.toUInt32 c1) >>> ((Int32.toUInt32 c2) &&& Int32.toUInt32 31)).toInt32) &&& (255 : Int32))) % 65536).toInt32))) fun h4 => (xl (xm_si h4 162 1 ((xm_i h4 162 1) + (1 : Int32))) fun h6 => (rec (c2 + (-8 : Int32)) h6))) else none) else (some ((), h))))
def f_X9_append_3 (N : Nat) (c1 : Int32) : Nat → Int32 → xm_H → Option (Unit × xm_H)
  | 0 => fun _ _ => none
  | n + 1 => fun c2 h => f_X9_append_3B N c1 (f_X9_append_3 N c1 n) c2 h
def f_X9_append (N : Nat) (x1 : Int32) (h : xm_H) : Option (Unit × xm_H) := (f_X9_append_3 N x1 N (24 : Int32) h)
theorem tl_X9_append_3 {ρ : Nat} {δ : Nat} {N : Nat} {c1 : Int32} {Q : xm_O → xm_H → Prop} {w : Unit × xm_H}  (hQ : xS ρ δ w.2 → Q (xjv w.1) w.2)  : ∀ (n : Nat) (c2 : Int32) (h : xm_H), xS ρ δ h → f_X9_append_3 N c1 n c2 h = some w → xm_W (xm_Rn xX 0) xM_X9_append Q 3 [some (.ref 162), some (.int c1), some (.int c2)] [] h := by
  intro n
  induction n with
  | zero =>
    intro c2 h hS hf
    exact (xn_e hf).elim
  | succ n ih =>
    intro c2 h hS hf
    replace hf : f_X9_append_3B N c1 (f_X9_append_3 N c1 n) c2 h = some w := hf
    unfold f_X9_append_3B at hf
    refine xw_K (pc' := 4) (ls' := [some (.ref 162), some (.int c1), some (.int c2)]) (st' := [.int c2]) rfl rfl trivial ?_
    refine xj_if_lt rfl hf (fun hc1 hf => ?_) (fun hc1 hf => ?_)
    · exact xr_v (inj := xjv) rfl rfl hf hQ hS
    · refine xw_G (pc' := 8) (st' := [.ref 162]) rfl rfl trivial ?_
      refine xw_G (pc' := 11) (st' := [.int (xm_i h 162 1)]) rfl rfl (xkf (xs_k hS rfl rfl : xm_k h 162 = (10, 0))) ?_
      refine xw_G (pc' := 14) (st' := [.int (600 : Int32), .int (xm_i h 162 1)]) rfl rfl trivial ?_
      refine xj_ic_ge rfl hf (fun hc2 hf => ?_) (fun hc2 hf => ?_)
      · refine xw_G (pc' := 18) (st' := [.ref 162]) rfl rfl trivial ?_
        refine xw_gr rfl (xkf (xs_k hS rfl rfl : xm_k h 162 = (10, 0))) (xs_r hS rfl) ?_
        refine xw_G (pc' := 22) (st' := [.ref 162, .ref 163]) rfl rfl trivial ?_
        refine xw_G (pc' := 25) (st' := [.int (xm_i h 162 1), .ref 163]) rfl rfl (xkf (xs_k hS rfl rfl : xm_k h 162 = (10, 0))) ?_
        refine xw_G (pc' := 26) (st' := [.int c1, .int (xm_i h 162 1), .ref 163]) rfl rfl trivial ?_
        refine xw_G (pc' := 27) (st' := [.int c2, .int c1, .int (xm_i h 162 1), .ref 163]) rfl rfl trivial ?_
        refine xw_G (pc' := 28) (st' := [.int (((Int32.toUInt32 c1) >>> ((Int32.toUInt32 c2) &&& Int32.toUInt32 31)).toInt32), .int (xm_i h 162 1), .ref 163]) rfl rfl trivial ?_
        refine xw_G (pc' := 31) (st' := [.int (255 : Int32), .int (((Int32.toUInt32 c1) >>> ((Int32.toUInt32 c2) &&& Int32.toUInt32 31)).toInt32), .int (xm_i h 162 1), .ref 163]) rfl rfl trivial ?_
        refine xw_G (pc' := 32) (st' := [.int ((((Int32.toUInt32 c1) >>> ((Int32.toUInt32 c2) &&& Int32.toUInt32 31)).toInt32) &&& (255 : Int32)), .int (xm_i h 162 1), .ref 163]) rfl rfl trivial ?_
        refine xw_G (pc' := 33) (st' := [.int (((Int32.toUInt32 ((((Int32.toUInt32 c1) >>> ((Int32.toUInt32 c2) &&& Int32.toUInt32 31)).toInt32) &&& (255 : Int32))) % 65536).toInt32), .int (xm_i h 162 1), .ref 163]) rfl rfl trivial ?_
        refine xg_e hf (fun hg3 hf => ?_)
        refine xa_c rfl (xkf (xs_k hS rfl rfl : xm_k h 163 = (103, 600))) (xkn (xs_k hS rfl rfl : xm_k h 163 = (103, 600))) hg3 (Nat.le_of_ble_eq_true rfl) hf (fun h4 e5 hf => ?_)
        have hS := xS_si hS e5
        refine xw_G (pc' := 35) (st' := [.ref 162]) rfl rfl trivial ?_
        refine xw_G (pc' := 36) (st' := [.ref 162, .ref 162]) rfl rfl rfl ?_
        refine xw_G (pc' := 39) (st' := [.int (xm_i h4 162 1), .ref 162]) rfl rfl (xkf (xs_k hS rfl rfl : xm_k h4 162 = (10, 0))) ?_
        refine xw_G (pc' := 40) (st' := [.int (1 : Int32), .int (xm_i h4 162 1), .ref 162]) rfl rfl trivial ?_
        refine xw_G (pc' := 41) (st' := [.int ((xm_i h4 162 1) + (1 : Int32)), .ref 162]) rfl rfl trivial ?_
        refine xp_i rfl (xkf (xs_k hS rfl rfl : xm_k h4 162 = (10, 0))) (Nat.le_of_ble_eq_true rfl) hf (fun h6 e7 hf => ?_)
        have hS := xS_si hS e7
        refine xw_G (pc' := 47) (ls' := [some (.ref 162), some (.int c1), some (.int (c2 + (-8 : Int32)))]) (st' := []) rfl rfl (Nat.le_of_ble_eq_true rfl) ?_
        refine xw_G (pc' := 3) (st' := []) rfl rfl trivial ?_
        refine xw_M rfl rfl ?_
        exact ih _ _ hS hf
      · exact xr_v (inj := xjv) rfl rfl hf hQ hS
theorem t_X9_append {N : Nat} {ρ : Nat} {δ : Nat} {x1 : Int32} {h : xm_H} {w : Unit × xm_H}  (hS : xS ρ δ h) (hf : f_X9_append N x1 h = some w) : xm_Rn xX 1 65 [.ref 162, .int x1] h (xjv w.1) w.2 ∧ xS ρ δ w.2 := by
  refine xt_mk (φ := fun h => xS ρ δ h) (M := xM_X9_append) (ls := [some (.ref 162), some (.int x1), none]) rfl (Nat.le_of_ble_eq_true rfl) rfl (fun Q hQ => ?_)
  unfold f_X9_append at hf
  refine xw_G (pc' := 2) (st' := [.int (24 : Int32)]) rfl rfl trivial ?_
  refine xw_G (pc' := 3) (ls' := [some (.ref 162), some (.int x1), some (.int (24 : Int32))]) (st' := []) rfl rfl (Nat.le_of_ble_eq_true rfl) ?_
  refine xw_M rfl rfl ?_
  refine tl_X9_append_3  hQ  _ _ _ hS hf
def f_X10_feed (N : Nat) (x1 : Int32) (x2 : Int32) (x3 : Int32) (x4 : Int32) (x5 : Int32) (h : xm_H) : Option (Int32 × xm_H) := (if (600 : Int32) < ((xm_i h 162 1) + (20 : Int32)) then (some ((-2 : Int32), h)) else (xb (f_X9_append N x1 h) fun v2 h3 => (xb (f_X9_append N x2 h3) fun v5 h6 => (xb (f_X9_append N x3 h6) fun v8 h9 => (xb (f_X9_append N x4 h9) fun v11 h12 => (xb (f_X9_append N x5 h12) fun v14 h15 => (some (xm_i h15 162 1, h15))))))))
theorem t_X10_feed {N : Nat} {ρ : Nat} {δ : Nat} {x1 : Int32} {x2 : Int32} {x3 : Int32} {x4 : Int32} {x5 : Int32} {h : xm_H} {w : Int32 × xm_H}  (hS : xS ρ δ h) (hf : f_X10_feed N x1 x2 x3 x4 x5 h = some w) : xm_Rn xX 2 73 [.ref 160, .int x1, .int x2, .int x3, .int x4, .int x5] h (xji w.1) w.2 ∧ xS ρ δ w.2 := by
  refine xt_mk (φ := fun h => xS ρ δ h) (M := xM_X10_feed) (ls := [some (.ref 160), some (.int x1), some (.int x2), some (.int x3), some (.int x4), some (.int x5), none]) rfl (Nat.le_of_ble_eq_true rfl) rfl (fun Q hQ => ?_)
  unfold f_X10_feed at hf
  refine xw_G (pc' := 1) (st' := [.ref 160]) rfl rfl trivial ?_
  refine xw_gr rfl (xkf (xs_k hS rfl rfl : xm_k h 160 = (0, 0))) (xs_r hS rfl) ?_
  refine xw_gr rfl (xkf (xs_k hS rfl rfl : xm_k h 161 = (6, 0))) (xs_r hS rfl) ?_
  refine xw_G (pc' := 9) (ls' := [some (.ref 160), some (.int x1), some (.int x2), some (.int x3), some (.int x4), some (.int x5), some (.ref 162)]) (st' := []) rfl rfl (Nat.le_of_ble_eq_true rfl) ?_
  refine xw_G (pc' := 11) (st' := [.ref 162]) rfl rfl trivial ?_
  refine xw_G (pc' := 14) (st' := [.int (xm_i h 162 1)]) rfl rfl (xkf (xs_k hS rfl rfl : xm_k h 162 = (10, 0))) ?_
  refine xw_G (pc' := 16) (st' := [.int (20 : Int32), .int (xm_i h 162 1)]) rfl rfl trivial ?_
  refine xw_G (pc' := 17) (st' := [.int ((xm_i h 162 1) + (20 : Int32))]) rfl rfl trivial ?_
  refine xw_G (pc' := 20) (st' := [.int (600 : Int32), .int ((xm_i h 162 1) + (20 : Int32))]) rfl rfl trivial ?_
  refine xj_ic_le rfl hf (fun hc1 hf => ?_) (fun hc1 hf => ?_)
  · refine xw_G (pc' := 25) (st' := [.int (-2 : Int32)]) rfl rfl trivial ?_
    exact xr_i (inj := xji) rfl rfl rfl rfl hf hQ hS
  · refine xw_G (pc' := 28) (st' := [.ref 162]) rfl rfl trivial ?_
    refine xw_G (pc' := 29) (st' := [.int x1, .ref 162]) rfl rfl trivial ?_
    refine xb_e hf (fun v2 h3 e4 hf => ?_)
    refine xw_V (v := none) rfl rfl (xkf (xs_k hS rfl rfl : xm_k h 162 = (10, 0))) (Nat.le_of_ble_eq_true rfl) (Nat.le_of_ble_eq_true rfl) (xm_Rn_le (Nat.le_of_ble_eq_true rfl) (t_X9_append  hS e4).1) ?_
    have hS := (t_X9_append  hS e4).2
    show xm_W _ _ _ 32 _ [] _
    refine xw_G (pc' := 34) (st' := [.ref 162]) rfl rfl trivial ?_
    refine xw_G (pc' := 35) (st' := [.int x2, .ref 162]) rfl rfl trivial ?_
    refine xb_e hf (fun v5 h6 e7 hf => ?_)
    refine xw_V (v := none) rfl rfl (xkf (xs_k hS rfl rfl : xm_k h3 162 = (10, 0))) (Nat.le_of_ble_eq_true rfl) (Nat.le_of_ble_eq_true rfl) (xm_Rn_le (Nat.le_of_ble_eq_true rfl) (t_X9_append  hS e7).1) ?_
    have hS := (t_X9_append  hS e7).2
    show xm_W _ _ _ 38 _ [] _
    refine xw_G (pc' := 40) (st' := [.ref 162]) rfl rfl trivial ?_
    refine xw_G (pc' := 41) (st' := [.int x3, .ref 162]) rfl rfl trivial ?_
    refine xb_e hf (fun v8 h9 e10 hf => ?_)
    refine xw_V (v := none) rfl rfl (xkf (xs_k hS rfl rfl : xm_k h6 162 = (10, 0))) (Nat.le_of_ble_eq_true rfl) (Nat.le_of_ble_eq_true rfl) (xm_Rn_le (Nat.le_of_ble_eq_true rfl) (t_X9_append  hS e10).1) ?_
    have hS := (t_X9_append  hS e10).2
    show xm_W _ _ _ 44 _ [] _
    refine xw_G (pc' := 46) (st' := [.ref 162]) rfl rfl trivial ?_
    refine xw_G (pc' := 48) (st' := [.int x4, .ref 162]) rfl rfl trivial ?_
    refine xb_e hf (fun v11 h12 e13 hf => ?_)
    refine xw_V (v := none) rfl rfl (xkf (xs_k hS rfl rfl : xm_k h9 162 = (10, 0))) (Nat.le_of_ble_eq_true rfl) (Nat.le_of_ble_eq_true rfl) (xm_Rn_le (Nat.le_of_ble_eq_true rfl) (t_X9_append  hS e13).1) ?_
    have hS := (t_X9_append  hS e13).2
    show xm_W _ _ _ 51 _ [] _
    refine xw_G (pc' := 53) (st' := [.ref 162]) rfl rfl trivial ?_
    refine xw_G (pc' := 55) (st' := [.int x5, .ref 162]) rfl rfl trivial ?_
    refine xb_e hf (fun v14 h15 e16 hf => ?_)
    refine xw_V (v := none) rfl rfl (xkf (xs_k hS rfl rfl : xm_k h12 162 = (10, 0))) (Nat.le_of_ble_eq_true rfl) (Nat.le_of_ble_eq_true rfl) (xm_Rn_le (Nat.le_of_ble_eq_true rfl) (t_X9_append  hS e16).1) ?_
    have hS := (t_X9_append  hS e16).2
    show xm_W _ _ _ 58 _ [] _
    refine xw_G (pc' := 60) (st' := [.ref 162]) rfl rfl trivial ?_
    refine xw_G (pc' := 63) (st' := [.int (xm_i h15 162 1)]) rfl rfl (xkf (xs_k hS rfl rfl : xm_k h15 162 = (10, 0))) ?_
    exact xr_i (inj := xji) rfl rfl rfl rfl hf hQ hS
def f_X11_append_3B (N : Nat) (c1 : Int32) (rec : Int32 → xm_H → Option (Unit × xm_H)) (c2 : Int32) (h : xm_H) : Option (Unit × xm_H) := (if c2 < 0 then (some ((), h)) else (if xin (xm_i h 302 6) 600 then (xl (xm_si h 306 (Int32.toNatClampNeg (xm_i h 302 6)) ((((Int32.toUInt32 c1) >>> ((Int32.toUInt32 c2) &&& Int32.toUInt32 31)).toInt32) &&& (255 : Int32))) fun h3 => (xl (xm_si h3 302 6 ((xm_i h3 302 6) + (1 : Int32))) fun h5 => (rec (c2 + (-8 : Int32)) h5))) else none))
def f_X11_append_3 (N : Nat) (c1 : Int32) : Nat → Int32 → xm_H → Option (Unit × xm_H)
  | 0 => fun _ _ => none
  | n + 1 => fun c2 h => f_X11_append_3B N c1 (f_X11_append_3 N c1 n) c2 h
def f_X11_append (N : Nat) (x1 : Int32) (h : xm_H) : Option (Unit × xm_H) := (f_X11_append_3 N x1 N (24 : Int32) h)
theorem tl_X11_append_3 {ρ : Nat} {δ : Nat} {N : Nat} {c1 : Int32} {Q : xm_O → xm_H → Prop} {w : Unit × xm_H}  (hQ : xS ρ δ w.2 → Q (xjv w.1) w.2)  : ∀ (n : Nat) (c2 : Int32) (h : xm_H), xS ρ δ h → f_X11_append_3 N c1 n c2 h = some w → xm_W (xm_Rn xX 0) xM_X11_append Q 3 [some (.ref 302), some (.int c1), some (.int c2)] [] h := by
  intro n
  induction n with
  | zero =>
    intro c2 h hS hf
    exact (xn_e hf).elim
  | succ n ih =>
    intro c2 h hS hf
    replace hf : f_X11_append_3B N c1 (f_X11_append_3 N c1 n) c2 h = some w := hf
    unfold f_X11_append_3B at hf
    refine xw_K (pc' := 4) (ls' := [some (.ref 302), some (.int c1), some (.int c2)]) (st' := [.int c2]) rfl rfl trivial ?_
    refine xj_if_lt rfl hf (fun hc1 hf => ?_) (fun hc1 hf => ?_)
    · exact xr_v (inj := xjv) rfl rfl hf hQ hS
    · refine xw_G (pc' := 8) (st' := [.ref 302]) rfl rfl trivial ?_
      refine xw_gr rfl (xkf (xs_k hS rfl rfl : xm_k h 302 = (11, 0))) (xs_r hS rfl) ?_
      refine xw_G (pc' := 12) (st' := [.ref 302, .ref 306]) rfl rfl trivial ?_
      refine xw_G (pc' := 15) (st' := [.int (xm_i h 302 6), .ref 306]) rfl rfl (xkf (xs_k hS rfl rfl : xm_k h 302 = (11, 0))) ?_
      refine xw_G (pc' := 16) (st' := [.int c1, .int (xm_i h 302 6), .ref 306]) rfl rfl trivial ?_
      refine xw_G (pc' := 17) (st' := [.int c2, .int c1, .int (xm_i h 302 6), .ref 306]) rfl rfl trivial ?_
      refine xw_G (pc' := 18) (st' := [.int (((Int32.toUInt32 c1) >>> ((Int32.toUInt32 c2) &&& Int32.toUInt32 31)).toInt32), .int (xm_i h 302 6), .ref 306]) rfl rfl trivial ?_
      refine xw_G (pc' := 21) (st' := [.int (255 : Int32), .int (((Int32.toUInt32 c1) >>> ((Int32.toUInt32 c2) &&& Int32.toUInt32 31)).toInt32), .int (xm_i h 302 6), .ref 306]) rfl rfl trivial ?_
      refine xw_G (pc' := 22) (st' := [.int ((((Int32.toUInt32 c1) >>> ((Int32.toUInt32 c2) &&& Int32.toUInt32 31)).toInt32) &&& (255 : Int32)), .int (xm_i h 302 6), .ref 306]) rfl rfl trivial ?_
      refine xg_e hf (fun hg2 hf => ?_)
      refine xa_i rfl (xkf (xs_k hS rfl rfl : xm_k h 306 = (100, 600))) (xkn (xs_k hS rfl rfl : xm_k h 306 = (100, 600))) hg2 (Nat.le_of_ble_eq_true rfl) hf (fun h3 e4 hf => ?_)
      have hS := xS_si hS e4
      refine xw_G (pc' := 24) (st' := [.ref 302]) rfl rfl trivial ?_
      refine xw_G (pc' := 25) (st' := [.ref 302, .ref 302]) rfl rfl rfl ?_
      refine xw_G (pc' := 28) (st' := [.int (xm_i h3 302 6), .ref 302]) rfl rfl (xkf (xs_k hS rfl rfl : xm_k h3 302 = (11, 0))) ?_
      refine xw_G (pc' := 29) (st' := [.int (1 : Int32), .int (xm_i h3 302 6), .ref 302]) rfl rfl trivial ?_
      refine xw_G (pc' := 30) (st' := [.int ((xm_i h3 302 6) + (1 : Int32)), .ref 302]) rfl rfl trivial ?_
      refine xp_i rfl (xkf (xs_k hS rfl rfl : xm_k h3 302 = (11, 0))) (Nat.le_of_ble_eq_true rfl) hf (fun h5 e6 hf => ?_)
      have hS := xS_si hS e6
      refine xw_G (pc' := 36) (ls' := [some (.ref 302), some (.int c1), some (.int (c2 + (-8 : Int32)))]) (st' := []) rfl rfl (Nat.le_of_ble_eq_true rfl) ?_
      refine xw_G (pc' := 3) (st' := []) rfl rfl trivial ?_
      refine xw_M rfl rfl ?_
      exact ih _ _ hS hf
theorem t_X11_append {N : Nat} {ρ : Nat} {δ : Nat} {x1 : Int32} {h : xm_H} {w : Unit × xm_H}  (hS : xS ρ δ h) (hf : f_X11_append N x1 h = some w) : xm_Rn xX 1 140 [.ref 302, .int x1] h (xjv w.1) w.2 ∧ xS ρ δ w.2 := by
  refine xt_mk (φ := fun h => xS ρ δ h) (M := xM_X11_append) (ls := [some (.ref 302), some (.int x1), none]) rfl (Nat.le_of_ble_eq_true rfl) rfl (fun Q hQ => ?_)
  unfold f_X11_append at hf
  refine xw_G (pc' := 2) (st' := [.int (24 : Int32)]) rfl rfl trivial ?_
  refine xw_G (pc' := 3) (ls' := [some (.ref 302), some (.int x1), some (.int (24 : Int32))]) (st' := []) rfl rfl (Nat.le_of_ble_eq_true rfl) ?_
  refine xw_M rfl rfl ?_
  refine tl_X11_append_3  hQ  _ _ _ hS hf
def f_X11_feed (N : Nat) (x1 : Int32) (x2 : Int32) (x3 : Int32) (x4 : Int32) (x5 : Int32) (h : xm_H) : Option (Int32 × xm_H) := (xl (xm_si h 302 4 (0 : Int32)) fun h1 => (if (600 : Int32) < ((xm_i h1 302 6) + (20 : Int32)) then (some ((-2 : Int32), h1)) else (xb (f_X11_append N x1 h1) fun v4 h5 => (xb (f_X11_append N x2 h5) fun v7 h8 => (xb (f_X11_append N x3 h8) fun v10 h11 => (xb (f_X11_append N x4 h11) fun v13 h14 => (xb (f_X11_append N x5 h14) fun v16 h17 => (some (xm_i h17 302 6, h17)))))))))
theorem t_X11_feed {N : Nat} {ρ : Nat} {δ : Nat} {x1 : Int32} {x2 : Int32} {x3 : Int32} {x4 : Int32} {x5 : Int32} {h : xm_H} {w : Int32 × xm_H}  (hS : xS ρ δ h) (hf : f_X11_feed N x1 x2 x3 x4 x5 h = some w) : xm_Rn xX 2 141 [.ref 302, .int x1, .int x2, .int x3, .int x4, .int x5] h (xji w.1) w.2 ∧ xS ρ δ w.2 := by
  refine xt_mk (φ := fun h => xS ρ δ h) (M := xM_X11_feed) (ls := [some (.ref 302), some (.int x1), some (.int x2), some (.int x3), some (.int x4), some (.int x5)]) rfl (Nat.le_of_ble_eq_true rfl) rfl (fun Q hQ => ?_)
  unfold f_X11_feed at hf
  refine xw_G (pc' := 1) (st' := [.ref 302]) rfl rfl trivial ?_
  refine xw_G (pc' := 2) (st' := [.int (0 : Int32), .ref 302]) rfl rfl trivial ?_
  refine xp_i rfl (xkf (xs_k hS rfl rfl : xm_k h 302 = (11, 0))) (Nat.le_of_ble_eq_true rfl) hf (fun h1 e2 hf => ?_)
  have hS := xS_si hS e2
  refine xw_G (pc' := 6) (st' := [.ref 302]) rfl rfl trivial ?_
  refine xw_G (pc' := 9) (st' := [.int (xm_i h1 302 6)]) rfl rfl (xkf (xs_k hS rfl rfl : xm_k h1 302 = (11, 0))) ?_
  refine xw_G (pc' := 11) (st' := [.int (20 : Int32), .int (xm_i h1 302 6)]) rfl rfl trivial ?_
  refine xw_G (pc' := 12) (st' := [.int ((xm_i h1 302 6) + (20 : Int32))]) rfl rfl trivial ?_
  refine xw_G (pc' := 15) (st' := [.int (600 : Int32), .int ((xm_i h1 302 6) + (20 : Int32))]) rfl rfl trivial ?_
  refine xj_ic_le rfl hf (fun hc3 hf => ?_) (fun hc3 hf => ?_)
  · refine xw_G (pc' := 20) (st' := [.int (-2 : Int32)]) rfl rfl trivial ?_
    exact xr_i (inj := xji) rfl rfl rfl rfl hf hQ hS
  · refine xw_G (pc' := 22) (st' := [.ref 302]) rfl rfl trivial ?_
    refine xw_G (pc' := 23) (st' := [.int x1, .ref 302]) rfl rfl trivial ?_
    refine xb_e hf (fun v4 h5 e6 hf => ?_)
    refine xw_V (v := none) rfl rfl (xkf (xs_k hS rfl rfl : xm_k h1 302 = (11, 0))) (Nat.le_of_ble_eq_true rfl) (Nat.le_of_ble_eq_true rfl) (xm_Rn_le (Nat.le_of_ble_eq_true rfl) (t_X11_append  hS e6).1) ?_
    have hS := (t_X11_append  hS e6).2
    show xm_W _ _ _ 26 _ [] _
    refine xw_G (pc' := 27) (st' := [.ref 302]) rfl rfl trivial ?_
    refine xw_G (pc' := 28) (st' := [.int x2, .ref 302]) rfl rfl trivial ?_
    refine xb_e hf (fun v7 h8 e9 hf => ?_)
    refine xw_V (v := none) rfl rfl (xkf (xs_k hS rfl rfl : xm_k h5 302 = (11, 0))) (Nat.le_of_ble_eq_true rfl) (Nat.le_of_ble_eq_true rfl) (xm_Rn_le (Nat.le_of_ble_eq_true rfl) (t_X11_append  hS e9).1) ?_
    have hS := (t_X11_append  hS e9).2
    show xm_W _ _ _ 31 _ [] _
    refine xw_G (pc' := 32) (st' := [.ref 302]) rfl rfl trivial ?_
    refine xw_G (pc' := 33) (st' := [.int x3, .ref 302]) rfl rfl trivial ?_
    refine xb_e hf (fun v10 h11 e12 hf => ?_)
    refine xw_V (v := none) rfl rfl (xkf (xs_k hS rfl rfl : xm_k h8 302 = (11, 0))) (Nat.le_of_ble_eq_true rfl) (Nat.le_of_ble_eq_true rfl) (xm_Rn_le (Nat.le_of_ble_eq_true rfl) (t_X11_append  hS e12).1) ?_
    have hS := (t_X11_append  hS e12).2
    show xm_W _ _ _ 36 _ [] _
    refine xw_G (pc' := 37) (st' := [.ref 302]) rfl rfl trivial ?_
    refine xw_G (pc' := 39) (st' := [.int x4, .ref 302]) rfl rfl trivial ?_
    refine xb_e hf (fun v13 h14 e15 hf => ?_)
    refine xw_V (v := none) rfl rfl (xkf (xs_k hS rfl rfl : xm_k h11 302 = (11, 0))) (Nat.le_of_ble_eq_true rfl) (Nat.le_of_ble_eq_true rfl) (xm_Rn_le (Nat.le_of_ble_eq_true rfl) (t_X11_append  hS e15).1) ?_
    have hS := (t_X11_append  hS e15).2
    show xm_W _ _ _ 42 _ [] _
    refine xw_G (pc' := 43) (st' := [.ref 302]) rfl rfl trivial ?_
    refine xw_G (pc' := 45) (st' := [.int x5, .ref 302]) rfl rfl trivial ?_
    refine xb_e hf (fun v16 h17 e18 hf => ?_)
    refine xw_V (v := none) rfl rfl (xkf (xs_k hS rfl rfl : xm_k h14 302 = (11, 0))) (Nat.le_of_ble_eq_true rfl) (Nat.le_of_ble_eq_true rfl) (xm_Rn_le (Nat.le_of_ble_eq_true rfl) (t_X11_append  hS e18).1) ?_
    have hS := (t_X11_append  hS e18).2
    show xm_W _ _ _ 48 _ [] _
    refine xw_G (pc' := 49) (st' := [.ref 302]) rfl rfl trivial ?_
    refine xw_G (pc' := 52) (st' := [.int (xm_i h17 302 6)]) rfl rfl (xkf (xs_k hS rfl rfl : xm_k h17 302 = (11, 0))) ?_
    exact xr_i (inj := xji) rfl rfl rfl rfl hf hQ hS
def f_X10_requireRange (x0 : Int32) (x1 : Int32) (x2 : Int32) (h : xm_H) : Option ((Unit ⊕ Nat × Nat) × xm_H) := (if x0 < x1 then (some (.inr (15, xm_n h), xm_new h (15, 0))) else (if x2 < x0 then (some (.inr (15, xm_n h), xm_new h (15, 0))) else (some (.inl (), h))))
theorem t_X10_requireRange {ρ : Nat} {δ : Nat} {x0 : Int32} {x1 : Int32} {x2 : Int32} {h : xm_H} {w : (Unit ⊕ Nat × Nat) × xm_H}  (hS : xS ρ δ h) (hf : f_X10_requireRange x0 x1 x2 h = some w) : xm_Rn xX 1 130 [.int x0, .int x1, .int x2] h (xtv w.1) w.2 ∧ xS ρ δ w.2 := by
  refine xt_mk (φ := fun h => xS ρ δ h) (M := xM_X10_requireRange) (ls := [some (.int x0), some (.int x1), some (.int x2)]) rfl (Nat.le_of_ble_eq_true rfl) rfl (fun Q hQ => ?_)
  unfold f_X10_requireRange at hf
  refine xw_G (pc' := 1) (st' := [.int x0]) rfl rfl trivial ?_
  refine xw_G (pc' := 2) (st' := [.int x1, .int x0]) rfl rfl trivial ?_
  refine xj_ic_lt rfl hf (fun hc1 hf => ?_) (fun hc1 hf => ?_)
  · exact xr_t (inj := xtv) rfl (Nat.le_of_ble_eq_true rfl) rfl hf hQ (xS_new hS rfl)
  · refine xw_G (pc' := 6) (st' := [.int x0]) rfl rfl trivial ?_
    refine xw_G (pc' := 7) (st' := [.int x2, .int x0]) rfl rfl trivial ?_
    refine xj_ic_le rfl hf (fun hc2 hf => ?_) (fun hc2 hf => ?_)
    · exact xr_t (inj := xtv) rfl (Nat.le_of_ble_eq_true rfl) rfl hf hQ (xS_new hS rfl)
    · exact xr_v (inj := xtv) rfl rfl hf hQ hS
def f_X6_clear (x0 : Nat) (h : xm_H) : Option (Unit × xm_H) := (xl (xm_si h x0 0 (100 : Int32)) fun h1 => (xl (xm_si h1 x0 1 (50 : Int32)) fun h3 => (xl (xm_si h3 (x0 + 1) 0 (100 : Int32)) fun h5 => (xl (xm_si h5 x0 3 (1 : Int32)) fun h7 => (xl (xm_si h7 x0 5 (0 : Int32)) fun h9 => (xl (xm_si h9 x0 7 (0 : Int32)) fun h11 => (xl (xm_si h11 x0 8 (0 : Int32)) fun h13 => (some ((), h13)))))))))
theorem t_X6_clear {ρ : Nat} {δ : Nat} {x0 : Nat} {h : xm_H} {w : Unit × xm_H} (hx0 : xIsR x0) (hS : xS ρ δ h) (hf : f_X6_clear x0 h = some w) : xm_Rn xX 1 57 [.ref x0] h (xjv w.1) w.2 ∧ xS ρ δ w.2 := by
  refine xt_mk (φ := fun h => xS ρ δ h) (M := xM_X6_clear) (ls := [some (.ref x0)]) rfl (Nat.le_of_ble_eq_true rfl) rfl (fun Q hQ => ?_)
  unfold f_X6_clear at hf
  refine xw_G (pc' := 1) (st' := [.ref x0]) rfl rfl trivial ?_
  refine xw_G (pc' := 3) (st' := [.int (100 : Int32), .ref x0]) rfl rfl trivial ?_
  refine xp_i rfl (xkf (xsR0 hS hx0)) (hx0.ge 0) hf (fun h1 e2 hf => ?_)
  have hS := xS_si hS e2
  refine xw_G (pc' := 7) (st' := [.ref x0]) rfl rfl trivial ?_
  refine xw_G (pc' := 9) (st' := [.int (50 : Int32), .ref x0]) rfl rfl trivial ?_
  refine xp_i rfl (xkf (xsR0 hS hx0)) (hx0.ge 0) hf (fun h3 e4 hf => ?_)
  have hS := xS_si hS e4
  refine xw_G (pc' := 13) (st' := [.ref x0]) rfl rfl trivial ?_
  refine xw_gr rfl (xkf (xsR0 hS hx0)) (xsRr2 hS hx0) ?_
  refine xw_G (pc' := 17) (st' := [.int (0 : Int32), .ref (x0 + 1)]) rfl rfl trivial ?_
  refine xw_G (pc' := 19) (st' := [.int (100 : Int32), .int (0 : Int32), .ref (x0 + 1)]) rfl rfl trivial ?_
  refine xa_i rfl (xkf (xsR1 hS hx0)) (xkn (xsR1 hS hx0)) (by decide : xin (0 : Int32) 4) (hx0.ge 1) hf (fun h5 e6 hf => ?_)
  have hS := xS_si hS e6
  refine xw_G (pc' := 21) (st' := [.ref x0]) rfl rfl trivial ?_
  refine xw_G (pc' := 22) (st' := [.int (1 : Int32), .ref x0]) rfl rfl trivial ?_
  refine xp_i rfl (xkf (xsR0 hS hx0)) (hx0.ge 0) hf (fun h7 e8 hf => ?_)
  have hS := xS_si hS e8
  refine xw_G (pc' := 26) (st' := [.ref x0]) rfl rfl trivial ?_
  refine xw_G (pc' := 27) (st' := [.int (0 : Int32), .ref x0]) rfl rfl trivial ?_
  refine xp_i rfl (xkf (xsR0 hS hx0)) (hx0.ge 0) hf (fun h9 e10 hf => ?_)
  have hS := xS_si hS e10
  refine xw_G (pc' := 31) (st' := [.ref x0]) rfl rfl trivial ?_
  refine xw_G (pc' := 32) (st' := [.int (0 : Int32), .ref x0]) rfl rfl trivial ?_
  refine xp_i rfl (xkf (xsR0 hS hx0)) (hx0.ge 0) hf (fun h11 e12 hf => ?_)
  have hS := xS_si hS e12
  refine xw_G (pc' := 36) (st' := [.ref x0]) rfl rfl trivial ?_
  refine xw_G (pc' := 37) (st' := [.int (0 : Int32), .ref x0]) rfl rfl trivial ?_
  refine xp_i rfl (xkf (xsR0 hS hx0)) (hx0.ge 0) hf (fun h13 e14 hf => ?_)
  have hS := xS_si hS e14
  exact xr_v (inj := xjv) rfl rfl hf hQ hS
def f_X9_runEnd_5B (N : Nat) (c1 : Int32) (c2 : Int32) (rec : Int32 → xm_H → Option (Int32 × xm_H)) (c3 : Int32) (h : xm_H) : Option (Int32 × xm_H) := (if c3 < (xm_i h 162 2) then (if xin c3 600 then (if (xm_i h 163 (Int32.toNatClampNeg c3)) < c1 then (some (c3, h)) else (if c2 < (xm_i h 163 (Int32.toNatClampNeg c3)) then (some (c3, h)) else (rec (c3 + (1 : Int32)) h))) else none) else (some (c3, h)))
def f_X9_runEnd_5 (N : Nat) (c1 : Int32) (c2 : Int32) : Nat → Int32 → xm_H → Option (Int32 × xm_H)
  | 0 => fun _ _ => none
  | n + 1 => fun c3 h => f_X9_runEnd_5B N c1 c2 (f_X9_runEnd_5 N c1 c2 n) c3 h
def f_X9_runEnd (N : Nat) (x1 : Int32) (x2 : Int32) (h : xm_H) : Option (Int32 × xm_H) := (f_X9_runEnd_5 N x1 x2 N (xm_i h 162 5) h)
theorem tl_X9_runEnd_5 {ρ : Nat} {δ : Nat} {N : Nat} {c1 : Int32} {c2 : Int32} {Q : xm_O → xm_H → Prop} {w : Int32 × xm_H}  (hQ : xS ρ δ w.2 → Q (xji w.1) w.2)  : ∀ (n : Nat) (c3 : Int32) (h : xm_H), xS ρ δ h → f_X9_runEnd_5 N c1 c2 n c3 h = some w → xm_W (xm_Rn xX 0) xM_X9_runEnd Q 5 [some (.ref 162), some (.int c1), some (.int c2), some (.int c3)] [] h := by
  intro n
  induction n with
  | zero =>
    intro c3 h hS hf
    exact (xn_e hf).elim
  | succ n ih =>
    intro c3 h hS hf
    replace hf : f_X9_runEnd_5B N c1 c2 (f_X9_runEnd_5 N c1 c2 n) c3 h = some w := hf
    unfold f_X9_runEnd_5B at hf
    refine xw_K (pc' := 6) (ls' := [some (.ref 162), some (.int c1), some (.int c2), some (.int c3)]) (st' := [.int c3]) rfl rfl trivial ?_
    refine xw_G (pc' := 7) (st' := [.ref 162, .int c3]) rfl rfl trivial ?_
    refine xw_G (pc' := 10) (st' := [.int (xm_i h 162 2), .int c3]) rfl rfl (xkf (xs_k hS rfl rfl : xm_k h 162 = (10, 0))) ?_
    refine xj_ic_ge rfl hf (fun hc1 hf => ?_) (fun hc1 hf => ?_)
    · refine xw_G (pc' := 14) (st' := [.ref 162]) rfl rfl trivial ?_
      refine xw_gr rfl (xkf (xs_k hS rfl rfl : xm_k h 162 = (10, 0))) (xs_r hS rfl) ?_
      refine xw_G (pc' := 18) (st' := [.int c3, .ref 163]) rfl rfl trivial ?_
      refine xg_e hf (fun hg2 hf => ?_)
      refine xa_ld (t := 103) (τ := 0) (v := .int (xm_i h 163 (Int32.toNatClampNeg c3))) rfl rfl (xkf (xs_k hS rfl rfl : xm_k h 163 = (103, 600))) (xkn (xs_k hS rfl rfl : xm_k h 163 = (103, 600))) hg2 rfl ?_
      refine xw_G (pc' := 20) (st' := [.int c1, .int (xm_i h 163 (Int32.toNatClampNeg c3))]) rfl rfl trivial ?_
      refine xj_ic_lt rfl hf (fun hc3 hf => ?_) (fun hc3 hf => ?_)
      · refine xw_G (pc' := 40) (st' := [.int c3]) rfl rfl trivial ?_
        exact xr_i (inj := xji) rfl rfl rfl rfl hf hQ hS
      · refine xw_G (pc' := 24) (st' := [.ref 162]) rfl rfl trivial ?_
        refine xw_gr rfl (xkf (xs_k hS rfl rfl : xm_k h 162 = (10, 0))) (xs_r hS rfl) ?_
        refine xw_G (pc' := 28) (st' := [.int c3, .ref 163]) rfl rfl trivial ?_
        refine xa_ld (t := 103) (τ := 0) (v := .int (xm_i h 163 (Int32.toNatClampNeg c3))) rfl rfl (xkf (xs_k hS rfl rfl : xm_k h 163 = (103, 600))) (xkn (xs_k hS rfl rfl : xm_k h 163 = (103, 600))) hg2 rfl ?_
        refine xw_G (pc' := 30) (st' := [.int c2, .int (xm_i h 163 (Int32.toNatClampNeg c3))]) rfl rfl trivial ?_
        refine xj_ic_gt rfl hf (fun hc4 hf => ?_) (fun hc4 hf => ?_)
        · refine xw_G (pc' := 40) (st' := [.int c3]) rfl rfl trivial ?_
          exact xr_i (inj := xji) rfl rfl rfl rfl hf hQ hS
        · refine xw_G (pc' := 36) (ls' := [some (.ref 162), some (.int c1), some (.int c2), some (.int (c3 + (1 : Int32)))]) (st' := []) rfl rfl (Nat.le_of_ble_eq_true rfl) ?_
          refine xw_G (pc' := 5) (st' := []) rfl rfl trivial ?_
          refine xw_M rfl rfl ?_
          exact ih _ _ hS hf
    · refine xw_G (pc' := 40) (st' := [.int c3]) rfl rfl trivial ?_
      exact xr_i (inj := xji) rfl rfl rfl rfl hf hQ hS
theorem t_X9_runEnd {N : Nat} {ρ : Nat} {δ : Nat} {x1 : Int32} {x2 : Int32} {h : xm_H} {w : Int32 × xm_H}  (hS : xS ρ δ h) (hf : f_X9_runEnd N x1 x2 h = some w) : xm_Rn xX 1 68 [.ref 162, .int x1, .int x2] h (xji w.1) w.2 ∧ xS ρ δ w.2 := by
  refine xt_mk (φ := fun h => xS ρ δ h) (M := xM_X9_runEnd) (ls := [some (.ref 162), some (.int x1), some (.int x2), none]) rfl (Nat.le_of_ble_eq_true rfl) rfl (fun Q hQ => ?_)
  unfold f_X9_runEnd at hf
  refine xw_G (pc' := 1) (st' := [.ref 162]) rfl rfl trivial ?_
  refine xw_G (pc' := 4) (st' := [.int (xm_i h 162 5)]) rfl rfl (xkf (xs_k hS rfl rfl : xm_k h 162 = (10, 0))) ?_
  refine xw_G (pc' := 5) (ls' := [some (.ref 162), some (.int x1), some (.int x2), some (.int (xm_i h 162 5))]) (st' := []) rfl rfl (Nat.le_of_ble_eq_true rfl) ?_
  refine xw_M rfl rfl ?_
  refine tl_X9_runEnd_5  hQ  _ _ _ hS hf
def f_X9_evaluate_10B (N : Nat) (rec : Int32 → xm_H → Option (Unit × xm_H)) (c1 : Int32) (h : xm_H) : Option (Unit × xm_H) := (if c1 < (xm_i h 162 3) then (if xin c1 600 then (xl (xm_si h 162 6 (((xm_i h 162 6) * (10 : Int32)) + ((xm_i h 163 (Int32.toNatClampNeg c1)) - (48 : Int32)))) fun h3 => (rec (c1 + (1 : Int32)) h3)) else none) else (some ((), h)))
def f_X9_evaluate_10 (N : Nat) : Nat → Int32 → xm_H → Option (Unit × xm_H)
  | 0 => fun _ _ => none
  | n + 1 => fun c1 h => f_X9_evaluate_10B N (f_X9_evaluate_10 N n) c1 h
def f_X9_evaluate (N : Nat) (h : xm_H) : Option (Unit × xm_H) := (xl (xm_si h 162 6 (0 : Int32)) fun h1 => (f_X9_evaluate_10 N N (xm_i h1 162 5) h1))
theorem tl_X9_evaluate_10 {ρ : Nat} {δ : Nat} {N : Nat} {Q : xm_O → xm_H → Prop} {w : Unit × xm_H}  (hQ : xS ρ δ w.2 → Q (xjv w.1) w.2)  : ∀ (n : Nat) (c1 : Int32) (h : xm_H), xS ρ δ h → f_X9_evaluate_10 N n c1 h = some w → xm_W (xm_Rn xX 0) xM_X9_evaluate Q 10 [some (.ref 162), some (.int c1)] [] h := by
  intro n
  induction n with
  | zero =>
    intro c1 h hS hf
    exact (xn_e hf).elim
  | succ n ih =>
    intro c1 h hS hf
    replace hf : f_X9_evaluate_10B N (f_X9_evaluate_10 N n) c1 h = some w := hf
    unfold f_X9_evaluate_10B at hf
    refine xw_K (pc' := 11) (ls' := [some (.ref 162), some (.int c1)]) (st' := [.int c1]) rfl rfl trivial ?_
    refine xw_G (pc' := 12) (st' := [.ref 162, .int c1]) rfl rfl trivial ?_
    refine xw_G (pc' := 15) (st' := [.int (xm_i h 162 3), .int c1]) rfl rfl (xkf (xs_k hS rfl rfl : xm_k h 162 = (10, 0))) ?_
    refine xj_ic_ge rfl hf (fun hc1 hf => ?_) (fun hc1 hf => ?_)
    · refine xw_G (pc' := 19) (st' := [.ref 162]) rfl rfl trivial ?_
      refine xw_G (pc' := 20) (st' := [.ref 162, .ref 162]) rfl rfl trivial ?_
      refine xw_G (pc' := 23) (st' := [.int (xm_i h 162 6), .ref 162]) rfl rfl (xkf (xs_k hS rfl rfl : xm_k h 162 = (10, 0))) ?_
      refine xw_G (pc' := 25) (st' := [.int (10 : Int32), .int (xm_i h 162 6), .ref 162]) rfl rfl trivial ?_
      refine xw_G (pc' := 26) (st' := [.int ((xm_i h 162 6) * (10 : Int32)), .ref 162]) rfl rfl trivial ?_
      refine xw_G (pc' := 27) (st' := [.ref 162, .int ((xm_i h 162 6) * (10 : Int32)), .ref 162]) rfl rfl trivial ?_
      refine xw_gr rfl (xkf (xs_k hS rfl rfl : xm_k h 162 = (10, 0))) (xs_r hS rfl) ?_
      refine xw_G (pc' := 31) (st' := [.int c1, .ref 163, .int ((xm_i h 162 6) * (10 : Int32)), .ref 162]) rfl rfl trivial ?_
      refine xg_e hf (fun hg2 hf => ?_)
      refine xa_ld (t := 103) (τ := 0) (v := .int (xm_i h 163 (Int32.toNatClampNeg c1))) rfl rfl (xkf (xs_k hS rfl rfl : xm_k h 163 = (103, 600))) (xkn (xs_k hS rfl rfl : xm_k h 163 = (103, 600))) hg2 rfl ?_
      refine xw_G (pc' := 34) (st' := [.int (48 : Int32), .int (xm_i h 163 (Int32.toNatClampNeg c1)), .int ((xm_i h 162 6) * (10 : Int32)), .ref 162]) rfl rfl trivial ?_
      refine xw_G (pc' := 35) (st' := [.int ((xm_i h 163 (Int32.toNatClampNeg c1)) - (48 : Int32)), .int ((xm_i h 162 6) * (10 : Int32)), .ref 162]) rfl rfl trivial ?_
      refine xw_G (pc' := 36) (st' := [.int (((xm_i h 162 6) * (10 : Int32)) + ((xm_i h 163 (Int32.toNatClampNeg c1)) - (48 : Int32))), .ref 162]) rfl rfl trivial ?_
      refine xp_i rfl (xkf (xs_k hS rfl rfl : xm_k h 162 = (10, 0))) (Nat.le_of_ble_eq_true rfl) hf (fun h3 e4 hf => ?_)
      have hS := xS_si hS e4
      refine xw_G (pc' := 42) (ls' := [some (.ref 162), some (.int (c1 + (1 : Int32)))]) (st' := []) rfl rfl (Nat.le_of_ble_eq_true rfl) ?_
      refine xw_G (pc' := 10) (st' := []) rfl rfl trivial ?_
      refine xw_M rfl rfl ?_
      exact ih _ _ hS hf
    · exact xr_v (inj := xjv) rfl rfl hf hQ hS
theorem t_X9_evaluate {N : Nat} {ρ : Nat} {δ : Nat} {h : xm_H} {w : Unit × xm_H}  (hS : xS ρ δ h) (hf : f_X9_evaluate N h = some w) : xm_Rn xX 1 69 [.ref 162] h (xjv w.1) w.2 ∧ xS ρ δ w.2 := by
  refine xt_mk (φ := fun h => xS ρ δ h) (M := xM_X9_evaluate) (ls := [some (.ref 162), none]) rfl (Nat.le_of_ble_eq_true rfl) rfl (fun Q hQ => ?_)
  unfold f_X9_evaluate at hf
  refine xw_G (pc' := 1) (st' := [.ref 162]) rfl rfl trivial ?_
  refine xw_G (pc' := 2) (st' := [.int (0 : Int32), .ref 162]) rfl rfl trivial ?_
  refine xp_i rfl (xkf (xs_k hS rfl rfl : xm_k h 162 = (10, 0))) (Nat.le_of_ble_eq_true rfl) hf (fun h1 e2 hf => ?_)
  have hS := xS_si hS e2
  refine xw_G (pc' := 6) (st' := [.ref 162]) rfl rfl trivial ?_
  refine xw_G (pc' := 9) (st' := [.int (xm_i h1 162 5)]) rfl rfl (xkf (xs_k hS rfl rfl : xm_k h1 162 = (10, 0))) ?_
  refine xw_G (pc' := 10) (ls' := [some (.ref 162), some (.int (xm_i h1 162 5))]) (st' := []) rfl rfl (Nat.le_of_ble_eq_true rfl) ?_
  refine xw_M rfl rfl ?_
  refine tl_X9_evaluate_10  hQ  _ _ _ hS hf
def f_X9_advance_8B (N : Nat) (k60 : xm_H → Option (Unit × xm_H)) (rec : xm_H → Option (Unit × xm_H))  (h : xm_H) : Option (Unit × xm_H) := (if (xm_i h 162 5) < (xm_i h 162 2) then (if xin (xm_i h 162 5) 600 then (if (xm_i h 163 (Int32.toNatClampNeg (xm_i h 162 5))) = (32 : Int32) then (xl (xm_si h 162 5 ((xm_i h 162 5) + (1 : Int32))) fun h4 => (rec  h4)) else (if (xm_i h 163 (Int32.toNatClampNeg (xm_i h 162 5))) = (10 : Int32) then (xl (xm_si h 162 5 ((xm_i h 162 5) + (1 : Int32))) fun h7 => (rec  h7)) else (k60  h))) else none) else (k60  h))
def f_X9_advance_8 (N : Nat) (k60 : xm_H → Option (Unit × xm_H)) : Nat → xm_H → Option (Unit × xm_H)
  | 0 => fun  _ => none
  | n + 1 => fun  h => f_X9_advance_8B N k60 (f_X9_advance_8 N k60 n)  h
def f_X9_advance (N : Nat) (h : xm_H) : Option (Unit × xm_H) := (xl (xm_si h 162 5 (xm_i h 162 3)) fun h1 => (f_X9_advance_8 N (fun  (h3 : xm_H) => (xb (f_X9_runEnd N (97 : Int32) (122 : Int32) h3) fun v4 h5 => (xb (f_X9_runEnd N (48 : Int32) (57 : Int32) h5) fun v7 h8 => (if (xm_i h8 162 5) < (xm_i h8 162 2) then (if (xm_i h8 162 5) < v4 then (if (10 : Int32) < (v4 - (xm_i h8 162 5)) then (xl (xm_si h8 162 4 (4 : Int32)) fun h13 => (xl (xm_si h13 162 3 v4) fun h15 => (if (xm_i h15 162 4) = (2 : Int32) then (xb (f_X9_evaluate N h15) fun v18 h19 => (some ((), h19))) else (some ((), h15))))) else (xl (xm_si h8 162 4 (1 : Int32)) fun h21 => (xl (xm_si h21 162 3 v4) fun h23 => (if (xm_i h23 162 4) = (2 : Int32) then (xb (f_X9_evaluate N h23) fun v26 h27 => (some ((), h27))) else (some ((), h23)))))) else (if (xm_i h8 162 5) < v7 then (if (4 : Int32) < (v7 - (xm_i h8 162 5)) then (xl (xm_si h8 162 4 (4 : Int32)) fun h31 => (xl (xm_si h31 162 3 v7) fun h33 => (if (xm_i h33 162 4) = (2 : Int32) then (xb (f_X9_evaluate N h33) fun v36 h37 => (some ((), h37))) else (some ((), h33))))) else (xl (xm_si h8 162 4 (2 : Int32)) fun h39 => (xl (xm_si h39 162 3 v7) fun h41 => (if (xm_i h41 162 4) = (2 : Int32) then (xb (f_X9_evaluate N h41) fun v44 h45 => (some ((), h45))) else (some ((), h41)))))) else (if xin (xm_i h8 162 5) 600 then (if (xm_i h8 163 (Int32.toNatClampNeg (xm_i h8 162 5))) = (59 : Int32) then (xl (xm_si h8 162 4 (3 : Int32)) fun h49 => (xl (xm_si h49 162 3 ((xm_i h49 162 5) + (1 : Int32))) fun h51 => (if (xm_i h51 162 4) = (2 : Int32) then (xb (f_X9_evaluate N h51) fun v54 h55 => (some ((), h55))) else (some ((), h51))))) else (xl (xm_si h8 162 4 (4 : Int32)) fun h57 => (xl (xm_si h57 162 3 ((xm_i h57 162 5) + (1 : Int32))) fun h59 => (if (xm_i h59 162 4) = (2 : Int32) then (xb (f_X9_evaluate N h59) fun v62 h63 => (some ((), h63))) else (some ((), h59)))))) else none))) else (xl (xm_si h8 162 4 (0 : Int32)) fun h65 => (xl (xm_si h65 162 3 (xm_i h65 162 5)) fun h67 => (if (xm_i h67 162 4) = (2 : Int32) then (xb (f_X9_evaluate N h67) fun v70 h71 => (some ((), h71))) else (some ((), h67))))))))) N  h1))
theorem tl_X9_advance_8 {ρ : Nat} {δ : Nat} {N : Nat} {k60 : xm_H → Option (Unit × xm_H)} {Q : xm_O → xm_H → Prop} {w : Unit × xm_H}  (hQ : xS ρ δ w.2 → Q (xjv w.1) w.2) (hk60 : ∀  (h : xm_H), xS ρ δ h → k60  h = some w → xm_W (xm_Rn xX 1) xM_X9_advance Q 60 [some (.ref 162), none, none] [] h) : ∀ (n : Nat)  (h : xm_H), xS ρ δ h → f_X9_advance_8 N k60 n  h = some w → xm_W (xm_Rn xX 1) xM_X9_advance Q 8 [some (.ref 162), none, none] [] h := by
  intro n
  induction n with
  | zero =>
    intro  h hS hf
    exact (xn_e hf).elim
  | succ n ih =>
    intro  h hS hf
    replace hf : f_X9_advance_8B N k60 (f_X9_advance_8 N k60 n)  h = some w := hf
    unfold f_X9_advance_8B at hf
    refine xw_K (pc' := 9) (ls' := [some (.ref 162), none, none]) (st' := [.ref 162]) rfl rfl trivial ?_
    refine xw_G (pc' := 12) (st' := [.int (xm_i h 162 5)]) rfl rfl (xkf (xs_k hS rfl rfl : xm_k h 162 = (10, 0))) ?_
    refine xw_G (pc' := 13) (st' := [.ref 162, .int (xm_i h 162 5)]) rfl rfl trivial ?_
    refine xw_G (pc' := 16) (st' := [.int (xm_i h 162 2), .int (xm_i h 162 5)]) rfl rfl (xkf (xs_k hS rfl rfl : xm_k h 162 = (10, 0))) ?_
    refine xj_ic_ge rfl hf (fun hc1 hf => ?_) (fun hc1 hf => ?_)
    · refine xw_G (pc' := 20) (st' := [.ref 162]) rfl rfl trivial ?_
      refine xw_gr rfl (xkf (xs_k hS rfl rfl : xm_k h 162 = (10, 0))) (xs_r hS rfl) ?_
      refine xw_G (pc' := 24) (st' := [.ref 162, .ref 163]) rfl rfl trivial ?_
      refine xw_G (pc' := 27) (st' := [.int (xm_i h 162 5), .ref 163]) rfl rfl (xkf (xs_k hS rfl rfl : xm_k h 162 = (10, 0))) ?_
      refine xg_e hf (fun hg2 hf => ?_)
      refine xa_ld (t := 103) (τ := 0) (v := .int (xm_i h 163 (Int32.toNatClampNeg (xm_i h 162 5)))) rfl rfl (xkf (xs_k hS rfl rfl : xm_k h 163 = (103, 600))) (xkn (xs_k hS rfl rfl : xm_k h 163 = (103, 600))) hg2 rfl ?_
      refine xw_G (pc' := 30) (st' := [.int (32 : Int32), .int (xm_i h 163 (Int32.toNatClampNeg (xm_i h 162 5)))]) rfl rfl trivial ?_
      refine xj_ic_eq rfl hf (fun hc3 hf => ?_) (fun hc3 hf => ?_)
      · refine xw_G (pc' := 48) (st' := [.ref 162]) rfl rfl trivial ?_
        refine xw_G (pc' := 49) (st' := [.ref 162, .ref 162]) rfl rfl rfl ?_
        refine xw_G (pc' := 52) (st' := [.int (xm_i h 162 5), .ref 162]) rfl rfl (xkf (xs_k hS rfl rfl : xm_k h 162 = (10, 0))) ?_
        refine xw_G (pc' := 53) (st' := [.int (1 : Int32), .int (xm_i h 162 5), .ref 162]) rfl rfl trivial ?_
        refine xw_G (pc' := 54) (st' := [.int ((xm_i h 162 5) + (1 : Int32)), .ref 162]) rfl rfl trivial ?_
        refine xp_i rfl (xkf (xs_k hS rfl rfl : xm_k h 162 = (10, 0))) (Nat.le_of_ble_eq_true rfl) hf (fun h4 e5 hf => ?_)
        have hS := xS_si hS e5
        refine xw_G (pc' := 8) (st' := []) rfl rfl trivial ?_
        refine xw_M rfl rfl ?_
        exact ih  _ hS hf
      · refine xw_G (pc' := 34) (st' := [.ref 162]) rfl rfl trivial ?_
        refine xw_gr rfl (xkf (xs_k hS rfl rfl : xm_k h 162 = (10, 0))) (xs_r hS rfl) ?_
        refine xw_G (pc' := 38) (st' := [.ref 162, .ref 163]) rfl rfl trivial ?_
        refine xw_G (pc' := 41) (st' := [.int (xm_i h 162 5), .ref 163]) rfl rfl (xkf (xs_k hS rfl rfl : xm_k h 162 = (10, 0))) ?_
        refine xa_ld (t := 103) (τ := 0) (v := .int (xm_i h 163 (Int32.toNatClampNeg (xm_i h 162 5)))) rfl rfl (xkf (xs_k hS rfl rfl : xm_k h 163 = (103, 600))) (xkn (xs_k hS rfl rfl : xm_k h 163 = (103, 600))) hg2 rfl ?_
        refine xw_G (pc' := 44) (st' := [.int (10 : Int32), .int (xm_i h 163 (Int32.toNatClampNeg (xm_i h 162 5)))]) rfl rfl trivial ?_
        refine xj_ic_ne rfl hf (fun hc6 hf => ?_) (fun hc6 hf => ?_)
        · refine xw_G (pc' := 48) (st' := [.ref 162]) rfl rfl trivial ?_
          refine xw_G (pc' := 49) (st' := [.ref 162, .ref 162]) rfl rfl rfl ?_
          refine xw_G (pc' := 52) (st' := [.int (xm_i h 162 5), .ref 162]) rfl rfl (xkf (xs_k hS rfl rfl : xm_k h 162 = (10, 0))) ?_
          refine xw_G (pc' := 53) (st' := [.int (1 : Int32), .int (xm_i h 162 5), .ref 162]) rfl rfl trivial ?_
          refine xw_G (pc' := 54) (st' := [.int ((xm_i h 162 5) + (1 : Int32)), .ref 162]) rfl rfl trivial ?_
          refine xp_i rfl (xkf (xs_k hS rfl rfl : xm_k h 162 = (10, 0))) (Nat.le_of_ble_eq_true rfl) hf (fun h7 e8 hf => ?_)
          have hS := xS_si hS e8
          refine xw_G (pc' := 8) (st' := []) rfl rfl trivial ?_
          refine xw_M rfl rfl ?_
          exact ih  _ hS hf
        · refine xw_M rfl rfl ?_
          exact hk60  _ hS hf
    · refine xw_M rfl rfl ?_
      exact hk60  _ hS hf
theorem t_X9_advance {N : Nat} {ρ : Nat} {δ : Nat} {h : xm_H} {w : Unit × xm_H}  (hS : xS ρ δ h) (hf : f_X9_advance N h = some w) : xm_Rn xX 2 67 [.ref 162] h (xjv w.1) w.2 ∧ xS ρ δ w.2 := by
  refine xt_mk (φ := fun h => xS ρ δ h) (M := xM_X9_advance) (ls := [some (.ref 162), none, none]) rfl (Nat.le_of_ble_eq_true rfl) rfl (fun Q hQ => ?_)
  unfold f_X9_advance at hf
  refine xw_G (pc' := 1) (st' := [.ref 162]) rfl rfl trivial ?_
  refine xw_G (pc' := 2) (st' := [.ref 162, .ref 162]) rfl rfl trivial ?_
  refine xw_G (pc' := 5) (st' := [.int (xm_i h 162 3), .ref 162]) rfl rfl (xkf (xs_k hS rfl rfl : xm_k h 162 = (10, 0))) ?_
  refine xp_i rfl (xkf (xs_k hS rfl rfl : xm_k h 162 = (10, 0))) (Nat.le_of_ble_eq_true rfl) hf (fun h1 e2 hf => ?_)
  have hS := xS_si hS e2
  refine xw_M rfl rfl ?_
  refine tl_X9_advance_8  hQ (fun  h3 hS hf => ?_) _  _ hS hf
  refine xw_K (pc' := 61) (ls' := [some (.ref 162), none, none]) (st' := [.ref 162]) rfl rfl trivial ?_
  refine xw_G (pc' := 63) (st' := [.int (97 : Int32), .ref 162]) rfl rfl trivial ?_
  refine xw_G (pc' := 65) (st' := [.int (122 : Int32), .int (97 : Int32), .ref 162]) rfl rfl trivial ?_
  refine xb_e hf (fun v4 h5 e6 hf => ?_)
  refine xw_V (v := some (.int v4)) rfl rfl (xkf (xs_k hS rfl rfl : xm_k h3 162 = (10, 0))) (Nat.le_of_ble_eq_true rfl) (Nat.le_of_ble_eq_true rfl) (xm_Rn_le (Nat.le_of_ble_eq_true rfl) (t_X9_runEnd  hS e6).1) ?_
  have hS := (t_X9_runEnd  hS e6).2
  show xm_W _ _ _ 68 _ [.int v4] _
  refine xw_G (pc' := 69) (ls' := [some (.ref 162), some (.int v4), none]) (st' := []) rfl rfl (Nat.le_of_ble_eq_true rfl) ?_
  refine xw_G (pc' := 70) (st' := [.ref 162]) rfl rfl trivial ?_
  refine xw_G (pc' := 72) (st' := [.int (48 : Int32), .ref 162]) rfl rfl trivial ?_
  refine xw_G (pc' := 74) (st' := [.int (57 : Int32), .int (48 : Int32), .ref 162]) rfl rfl trivial ?_
  refine xb_e hf (fun v7 h8 e9 hf => ?_)
  refine xw_V (v := some (.int v7)) rfl rfl (xkf (xs_k hS rfl rfl : xm_k h5 162 = (10, 0))) (Nat.le_of_ble_eq_true rfl) (Nat.le_of_ble_eq_true rfl) (xm_Rn_le (Nat.le_of_ble_eq_true rfl) (t_X9_runEnd  hS e9).1) ?_
  have hS := (t_X9_runEnd  hS e9).2
  show xm_W _ _ _ 77 _ [.int v7] _
  refine xw_G (pc' := 78) (ls' := [some (.ref 162), some (.int v4), some (.int v7)]) (st' := []) rfl rfl (Nat.le_of_ble_eq_true rfl) ?_
  refine xw_G (pc' := 79) (st' := [.ref 162]) rfl rfl trivial ?_
  refine xw_G (pc' := 82) (st' := [.int (xm_i h8 162 5)]) rfl rfl (xkf (xs_k hS rfl rfl : xm_k h8 162 = (10, 0))) ?_
  refine xw_G (pc' := 83) (st' := [.ref 162, .int (xm_i h8 162 5)]) rfl rfl trivial ?_
  refine xw_G (pc' := 86) (st' := [.int (xm_i h8 162 2), .int (xm_i h8 162 5)]) rfl rfl (xkf (xs_k hS rfl rfl : xm_k h8 162 = (10, 0))) ?_
  refine xj_ic_lt rfl hf (fun hc10 hf => ?_) (fun hc10 hf => ?_)
  · refine xw_G (pc' := 106) (st' := [.int v4]) rfl rfl trivial ?_
    refine xw_G (pc' := 107) (st' := [.ref 162, .int v4]) rfl rfl trivial ?_
    refine xw_G (pc' := 110) (st' := [.int (xm_i h8 162 5), .int v4]) rfl rfl (xkf (xs_k hS rfl rfl : xm_k h8 162 = (10, 0))) ?_
    refine xj_ic_le rfl hf (fun hc11 hf => ?_) (fun hc11 hf => ?_)
    · refine xw_G (pc' := 114) (st' := [.ref 162]) rfl rfl trivial ?_
      refine xw_G (pc' := 115) (st' := [.int v4, .ref 162]) rfl rfl trivial ?_
      refine xw_G (pc' := 116) (st' := [.ref 162, .int v4, .ref 162]) rfl rfl trivial ?_
      refine xw_G (pc' := 119) (st' := [.int (xm_i h8 162 5), .int v4, .ref 162]) rfl rfl (xkf (xs_k hS rfl rfl : xm_k h8 162 = (10, 0))) ?_
      refine xw_G (pc' := 120) (st' := [.int (v4 - (xm_i h8 162 5)), .ref 162]) rfl rfl trivial ?_
      refine xw_G (pc' := 122) (st' := [.int (10 : Int32), .int (v4 - (xm_i h8 162 5)), .ref 162]) rfl rfl trivial ?_
      refine xj_ic_gt rfl hf (fun hc12 hf => ?_) (fun hc12 hf => ?_)
      · refine xw_G (pc' := 130) (st' := [.int (4 : Int32), .ref 162]) rfl rfl trivial ?_
        refine xp_i rfl (xkf (xs_k hS rfl rfl : xm_k h8 162 = (10, 0))) (Nat.le_of_ble_eq_true rfl) hf (fun h13 e14 hf => ?_)
        have hS := xS_si hS e14
        refine xw_G (pc' := 134) (st' := [.ref 162]) rfl rfl trivial ?_
        refine xw_G (pc' := 135) (st' := [.int v4, .ref 162]) rfl rfl trivial ?_
        refine xp_i rfl (xkf (xs_k hS rfl rfl : xm_k h13 162 = (10, 0))) (Nat.le_of_ble_eq_true rfl) hf (fun h15 e16 hf => ?_)
        have hS := xS_si hS e16
        refine xw_G (pc' := 209) (st' := []) rfl rfl trivial ?_
        refine xw_G (pc' := 210) (st' := [.ref 162]) rfl rfl trivial ?_
        refine xw_G (pc' := 213) (st' := [.int (xm_i h15 162 4)]) rfl rfl (xkf (xs_k hS rfl rfl : xm_k h15 162 = (10, 0))) ?_
        refine xw_G (pc' := 214) (st' := [.int (2 : Int32), .int (xm_i h15 162 4)]) rfl rfl trivial ?_
        refine xj_ic_ne rfl hf (fun hc17 hf => ?_) (fun hc17 hf => ?_)
        · refine xw_G (pc' := 218) (st' := [.ref 162]) rfl rfl trivial ?_
          refine xb_e hf (fun v18 h19 e20 hf => ?_)
          refine xw_V (v := none) rfl rfl (xkf (xs_k hS rfl rfl : xm_k h15 162 = (10, 0))) (Nat.le_of_ble_eq_true rfl) (Nat.le_of_ble_eq_true rfl) (xm_Rn_le (Nat.le_of_ble_eq_true rfl) (t_X9_evaluate  hS e20).1) ?_
          have hS := (t_X9_evaluate  hS e20).2
          show xm_W _ _ _ 221 _ [] _
          exact xr_v (inj := xjv) rfl rfl hf hQ hS
        · exact xr_v (inj := xjv) rfl rfl hf hQ hS
      · refine xw_G (pc' := 126) (st' := [.int (1 : Int32), .ref 162]) rfl rfl trivial ?_
        refine xw_G (pc' := 130) (st' := [.int (1 : Int32), .ref 162]) rfl rfl trivial ?_
        refine xp_i rfl (xkf (xs_k hS rfl rfl : xm_k h8 162 = (10, 0))) (Nat.le_of_ble_eq_true rfl) hf (fun h21 e22 hf => ?_)
        have hS := xS_si hS e22
        refine xw_G (pc' := 134) (st' := [.ref 162]) rfl rfl trivial ?_
        refine xw_G (pc' := 135) (st' := [.int v4, .ref 162]) rfl rfl trivial ?_
        refine xp_i rfl (xkf (xs_k hS rfl rfl : xm_k h21 162 = (10, 0))) (Nat.le_of_ble_eq_true rfl) hf (fun h23 e24 hf => ?_)
        have hS := xS_si hS e24
        refine xw_G (pc' := 209) (st' := []) rfl rfl trivial ?_
        refine xw_G (pc' := 210) (st' := [.ref 162]) rfl rfl trivial ?_
        refine xw_G (pc' := 213) (st' := [.int (xm_i h23 162 4)]) rfl rfl (xkf (xs_k hS rfl rfl : xm_k h23 162 = (10, 0))) ?_
        refine xw_G (pc' := 214) (st' := [.int (2 : Int32), .int (xm_i h23 162 4)]) rfl rfl trivial ?_
        refine xj_ic_ne rfl hf (fun hc25 hf => ?_) (fun hc25 hf => ?_)
        · refine xw_G (pc' := 218) (st' := [.ref 162]) rfl rfl trivial ?_
          refine xb_e hf (fun v26 h27 e28 hf => ?_)
          refine xw_V (v := none) rfl rfl (xkf (xs_k hS rfl rfl : xm_k h23 162 = (10, 0))) (Nat.le_of_ble_eq_true rfl) (Nat.le_of_ble_eq_true rfl) (xm_Rn_le (Nat.le_of_ble_eq_true rfl) (t_X9_evaluate  hS e28).1) ?_
          have hS := (t_X9_evaluate  hS e28).2
          show xm_W _ _ _ 221 _ [] _
          exact xr_v (inj := xjv) rfl rfl hf hQ hS
        · exact xr_v (inj := xjv) rfl rfl hf hQ hS
    · refine xw_G (pc' := 142) (st' := [.int v7]) rfl rfl trivial ?_
      refine xw_G (pc' := 143) (st' := [.ref 162, .int v7]) rfl rfl trivial ?_
      refine xw_G (pc' := 146) (st' := [.int (xm_i h8 162 5), .int v7]) rfl rfl (xkf (xs_k hS rfl rfl : xm_k h8 162 = (10, 0))) ?_
      refine xj_ic_le rfl hf (fun hc29 hf => ?_) (fun hc29 hf => ?_)
      · refine xw_G (pc' := 150) (st' := [.ref 162]) rfl rfl trivial ?_
        refine xw_G (pc' := 151) (st' := [.int v7, .ref 162]) rfl rfl trivial ?_
        refine xw_G (pc' := 152) (st' := [.ref 162, .int v7, .ref 162]) rfl rfl trivial ?_
        refine xw_G (pc' := 155) (st' := [.int (xm_i h8 162 5), .int v7, .ref 162]) rfl rfl (xkf (xs_k hS rfl rfl : xm_k h8 162 = (10, 0))) ?_
        refine xw_G (pc' := 156) (st' := [.int (v7 - (xm_i h8 162 5)), .ref 162]) rfl rfl trivial ?_
        refine xw_G (pc' := 157) (st' := [.int (4 : Int32), .int (v7 - (xm_i h8 162 5)), .ref 162]) rfl rfl trivial ?_
        refine xj_ic_gt rfl hf (fun hc30 hf => ?_) (fun hc30 hf => ?_)
        · refine xw_G (pc' := 165) (st' := [.int (4 : Int32), .ref 162]) rfl rfl trivial ?_
          refine xp_i rfl (xkf (xs_k hS rfl rfl : xm_k h8 162 = (10, 0))) (Nat.le_of_ble_eq_true rfl) hf (fun h31 e32 hf => ?_)
          have hS := xS_si hS e32
          refine xw_G (pc' := 169) (st' := [.ref 162]) rfl rfl trivial ?_
          refine xw_G (pc' := 170) (st' := [.int v7, .ref 162]) rfl rfl trivial ?_
          refine xp_i rfl (xkf (xs_k hS rfl rfl : xm_k h31 162 = (10, 0))) (Nat.le_of_ble_eq_true rfl) hf (fun h33 e34 hf => ?_)
          have hS := xS_si hS e34
          refine xw_G (pc' := 209) (st' := []) rfl rfl trivial ?_
          refine xw_G (pc' := 210) (st' := [.ref 162]) rfl rfl trivial ?_
          refine xw_G (pc' := 213) (st' := [.int (xm_i h33 162 4)]) rfl rfl (xkf (xs_k hS rfl rfl : xm_k h33 162 = (10, 0))) ?_
          refine xw_G (pc' := 214) (st' := [.int (2 : Int32), .int (xm_i h33 162 4)]) rfl rfl trivial ?_
          refine xj_ic_ne rfl hf (fun hc35 hf => ?_) (fun hc35 hf => ?_)
          · refine xw_G (pc' := 218) (st' := [.ref 162]) rfl rfl trivial ?_
            refine xb_e hf (fun v36 h37 e38 hf => ?_)
            refine xw_V (v := none) rfl rfl (xkf (xs_k hS rfl rfl : xm_k h33 162 = (10, 0))) (Nat.le_of_ble_eq_true rfl) (Nat.le_of_ble_eq_true rfl) (xm_Rn_le (Nat.le_of_ble_eq_true rfl) (t_X9_evaluate  hS e38).1) ?_
            have hS := (t_X9_evaluate  hS e38).2
            show xm_W _ _ _ 221 _ [] _
            exact xr_v (inj := xjv) rfl rfl hf hQ hS
          · exact xr_v (inj := xjv) rfl rfl hf hQ hS
        · refine xw_G (pc' := 161) (st' := [.int (2 : Int32), .ref 162]) rfl rfl trivial ?_
          refine xw_G (pc' := 165) (st' := [.int (2 : Int32), .ref 162]) rfl rfl trivial ?_
          refine xp_i rfl (xkf (xs_k hS rfl rfl : xm_k h8 162 = (10, 0))) (Nat.le_of_ble_eq_true rfl) hf (fun h39 e40 hf => ?_)
          have hS := xS_si hS e40
          refine xw_G (pc' := 169) (st' := [.ref 162]) rfl rfl trivial ?_
          refine xw_G (pc' := 170) (st' := [.int v7, .ref 162]) rfl rfl trivial ?_
          refine xp_i rfl (xkf (xs_k hS rfl rfl : xm_k h39 162 = (10, 0))) (Nat.le_of_ble_eq_true rfl) hf (fun h41 e42 hf => ?_)
          have hS := xS_si hS e42
          refine xw_G (pc' := 209) (st' := []) rfl rfl trivial ?_
          refine xw_G (pc' := 210) (st' := [.ref 162]) rfl rfl trivial ?_
          refine xw_G (pc' := 213) (st' := [.int (xm_i h41 162 4)]) rfl rfl (xkf (xs_k hS rfl rfl : xm_k h41 162 = (10, 0))) ?_
          refine xw_G (pc' := 214) (st' := [.int (2 : Int32), .int (xm_i h41 162 4)]) rfl rfl trivial ?_
          refine xj_ic_ne rfl hf (fun hc43 hf => ?_) (fun hc43 hf => ?_)
          · refine xw_G (pc' := 218) (st' := [.ref 162]) rfl rfl trivial ?_
            refine xb_e hf (fun v44 h45 e46 hf => ?_)
            refine xw_V (v := none) rfl rfl (xkf (xs_k hS rfl rfl : xm_k h41 162 = (10, 0))) (Nat.le_of_ble_eq_true rfl) (Nat.le_of_ble_eq_true rfl) (xm_Rn_le (Nat.le_of_ble_eq_true rfl) (t_X9_evaluate  hS e46).1) ?_
            have hS := (t_X9_evaluate  hS e46).2
            show xm_W _ _ _ 221 _ [] _
            exact xr_v (inj := xjv) rfl rfl hf hQ hS
          · exact xr_v (inj := xjv) rfl rfl hf hQ hS
      · refine xw_G (pc' := 177) (st' := [.ref 162]) rfl rfl trivial ?_
        refine xw_G (pc' := 178) (st' := [.ref 162, .ref 162]) rfl rfl trivial ?_
        refine xw_gr rfl (xkf (xs_k hS rfl rfl : xm_k h8 162 = (10, 0))) (xs_r hS rfl) ?_
        refine xw_G (pc' := 182) (st' := [.ref 162, .ref 163, .ref 162]) rfl rfl trivial ?_
        refine xw_G (pc' := 185) (st' := [.int (xm_i h8 162 5), .ref 163, .ref 162]) rfl rfl (xkf (xs_k hS rfl rfl : xm_k h8 162 = (10, 0))) ?_
        refine xg_e hf (fun hg47 hf => ?_)
        refine xa_ld (t := 103) (τ := 0) (v := .int (xm_i h8 163 (Int32.toNatClampNeg (xm_i h8 162 5)))) rfl rfl (xkf (xs_k hS rfl rfl : xm_k h8 163 = (103, 600))) (xkn (xs_k hS rfl rfl : xm_k h8 163 = (103, 600))) hg47 rfl ?_
        refine xw_G (pc' := 188) (st' := [.int (59 : Int32), .int (xm_i h8 163 (Int32.toNatClampNeg (xm_i h8 162 5))), .ref 162]) rfl rfl trivial ?_
        refine xj_ic_ne rfl hf (fun hc48 hf => ?_) (fun hc48 hf => ?_)
        · refine xw_G (pc' := 192) (st' := [.int (3 : Int32), .ref 162]) rfl rfl trivial ?_
          refine xw_G (pc' := 196) (st' := [.int (3 : Int32), .ref 162]) rfl rfl trivial ?_
          refine xp_i rfl (xkf (xs_k hS rfl rfl : xm_k h8 162 = (10, 0))) (Nat.le_of_ble_eq_true rfl) hf (fun h49 e50 hf => ?_)
          have hS := xS_si hS e50
          refine xw_G (pc' := 200) (st' := [.ref 162]) rfl rfl trivial ?_
          refine xw_G (pc' := 201) (st' := [.ref 162, .ref 162]) rfl rfl trivial ?_
          refine xw_G (pc' := 204) (st' := [.int (xm_i h49 162 5), .ref 162]) rfl rfl (xkf (xs_k hS rfl rfl : xm_k h49 162 = (10, 0))) ?_
          refine xw_G (pc' := 205) (st' := [.int (1 : Int32), .int (xm_i h49 162 5), .ref 162]) rfl rfl trivial ?_
          refine xw_G (pc' := 206) (st' := [.int ((xm_i h49 162 5) + (1 : Int32)), .ref 162]) rfl rfl trivial ?_
          refine xp_i rfl (xkf (xs_k hS rfl rfl : xm_k h49 162 = (10, 0))) (Nat.le_of_ble_eq_true rfl) hf (fun h51 e52 hf => ?_)
          have hS := xS_si hS e52
          refine xw_G (pc' := 210) (st' := [.ref 162]) rfl rfl trivial ?_
          refine xw_G (pc' := 213) (st' := [.int (xm_i h51 162 4)]) rfl rfl (xkf (xs_k hS rfl rfl : xm_k h51 162 = (10, 0))) ?_
          refine xw_G (pc' := 214) (st' := [.int (2 : Int32), .int (xm_i h51 162 4)]) rfl rfl trivial ?_
          refine xj_ic_ne rfl hf (fun hc53 hf => ?_) (fun hc53 hf => ?_)
          · refine xw_G (pc' := 218) (st' := [.ref 162]) rfl rfl trivial ?_
            refine xb_e hf (fun v54 h55 e56 hf => ?_)
            refine xw_V (v := none) rfl rfl (xkf (xs_k hS rfl rfl : xm_k h51 162 = (10, 0))) (Nat.le_of_ble_eq_true rfl) (Nat.le_of_ble_eq_true rfl) (xm_Rn_le (Nat.le_of_ble_eq_true rfl) (t_X9_evaluate  hS e56).1) ?_
            have hS := (t_X9_evaluate  hS e56).2
            show xm_W _ _ _ 221 _ [] _
            exact xr_v (inj := xjv) rfl rfl hf hQ hS
          · exact xr_v (inj := xjv) rfl rfl hf hQ hS
        · refine xw_G (pc' := 196) (st' := [.int (4 : Int32), .ref 162]) rfl rfl trivial ?_
          refine xp_i rfl (xkf (xs_k hS rfl rfl : xm_k h8 162 = (10, 0))) (Nat.le_of_ble_eq_true rfl) hf (fun h57 e58 hf => ?_)
          have hS := xS_si hS e58
          refine xw_G (pc' := 200) (st' := [.ref 162]) rfl rfl trivial ?_
          refine xw_G (pc' := 201) (st' := [.ref 162, .ref 162]) rfl rfl trivial ?_
          refine xw_G (pc' := 204) (st' := [.int (xm_i h57 162 5), .ref 162]) rfl rfl (xkf (xs_k hS rfl rfl : xm_k h57 162 = (10, 0))) ?_
          refine xw_G (pc' := 205) (st' := [.int (1 : Int32), .int (xm_i h57 162 5), .ref 162]) rfl rfl trivial ?_
          refine xw_G (pc' := 206) (st' := [.int ((xm_i h57 162 5) + (1 : Int32)), .ref 162]) rfl rfl trivial ?_
          refine xp_i rfl (xkf (xs_k hS rfl rfl : xm_k h57 162 = (10, 0))) (Nat.le_of_ble_eq_true rfl) hf (fun h59 e60 hf => ?_)
          have hS := xS_si hS e60
          refine xw_G (pc' := 210) (st' := [.ref 162]) rfl rfl trivial ?_
          refine xw_G (pc' := 213) (st' := [.int (xm_i h59 162 4)]) rfl rfl (xkf (xs_k hS rfl rfl : xm_k h59 162 = (10, 0))) ?_
          refine xw_G (pc' := 214) (st' := [.int (2 : Int32), .int (xm_i h59 162 4)]) rfl rfl trivial ?_
          refine xj_ic_ne rfl hf (fun hc61 hf => ?_) (fun hc61 hf => ?_)
          · refine xw_G (pc' := 218) (st' := [.ref 162]) rfl rfl trivial ?_
            refine xb_e hf (fun v62 h63 e64 hf => ?_)
            refine xw_V (v := none) rfl rfl (xkf (xs_k hS rfl rfl : xm_k h59 162 = (10, 0))) (Nat.le_of_ble_eq_true rfl) (Nat.le_of_ble_eq_true rfl) (xm_Rn_le (Nat.le_of_ble_eq_true rfl) (t_X9_evaluate  hS e64).1) ?_
            have hS := (t_X9_evaluate  hS e64).2
            show xm_W _ _ _ 221 _ [] _
            exact xr_v (inj := xjv) rfl rfl hf hQ hS
          · exact xr_v (inj := xjv) rfl rfl hf hQ hS
  · refine xw_G (pc' := 90) (st' := [.ref 162]) rfl rfl trivial ?_
    refine xw_G (pc' := 91) (st' := [.int (0 : Int32), .ref 162]) rfl rfl trivial ?_
    refine xp_i rfl (xkf (xs_k hS rfl rfl : xm_k h8 162 = (10, 0))) (Nat.le_of_ble_eq_true rfl) hf (fun h65 e66 hf => ?_)
    have hS := xS_si hS e66
    refine xw_G (pc' := 95) (st' := [.ref 162]) rfl rfl trivial ?_
    refine xw_G (pc' := 96) (st' := [.ref 162, .ref 162]) rfl rfl trivial ?_
    refine xw_G (pc' := 99) (st' := [.int (xm_i h65 162 5), .ref 162]) rfl rfl (xkf (xs_k hS rfl rfl : xm_k h65 162 = (10, 0))) ?_
    refine xp_i rfl (xkf (xs_k hS rfl rfl : xm_k h65 162 = (10, 0))) (Nat.le_of_ble_eq_true rfl) hf (fun h67 e68 hf => ?_)
    have hS := xS_si hS e68
    refine xw_G (pc' := 209) (st' := []) rfl rfl trivial ?_
    refine xw_G (pc' := 210) (st' := [.ref 162]) rfl rfl trivial ?_
    refine xw_G (pc' := 213) (st' := [.int (xm_i h67 162 4)]) rfl rfl (xkf (xs_k hS rfl rfl : xm_k h67 162 = (10, 0))) ?_
    refine xw_G (pc' := 214) (st' := [.int (2 : Int32), .int (xm_i h67 162 4)]) rfl rfl trivial ?_
    refine xj_ic_ne rfl hf (fun hc69 hf => ?_) (fun hc69 hf => ?_)
    · refine xw_G (pc' := 218) (st' := [.ref 162]) rfl rfl trivial ?_
      refine xb_e hf (fun v70 h71 e72 hf => ?_)
      refine xw_V (v := none) rfl rfl (xkf (xs_k hS rfl rfl : xm_k h67 162 = (10, 0))) (Nat.le_of_ble_eq_true rfl) (Nat.le_of_ble_eq_true rfl) (xm_Rn_le (Nat.le_of_ble_eq_true rfl) (t_X9_evaluate  hS e72).1) ?_
      have hS := (t_X9_evaluate  hS e72).2
      show xm_W _ _ _ 221 _ [] _
      exact xr_v (inj := xjv) rfl rfl hf hQ hS
    · exact xr_v (inj := xjv) rfl rfl hf hQ hS
def f_X9_begin (N : Nat) (x1 : Int32) (h : xm_H) : Option (Unit × xm_H) := (xl (xm_si h 162 2 (if (600 : Int32) < x1 then (600 : Int32) else x1)) fun h1 => (xl (xm_si h1 162 3 (0 : Int32)) fun h3 => (xb (f_X9_advance N h3) fun v5 h6 => (some ((), h6)))))
theorem t_X9_begin {N : Nat} {ρ : Nat} {δ : Nat} {x1 : Int32} {h : xm_H} {w : Unit × xm_H}  (hS : xS ρ δ h) (hf : f_X9_begin N x1 h = some w) : xm_Rn xX 3 66 [.ref 162, .int x1] h (xjv w.1) w.2 ∧ xS ρ δ w.2 := by
  refine xt_mk (φ := fun h => xS ρ δ h) (M := xM_X9_begin) (ls := [some (.ref 162), some (.int x1)]) rfl (Nat.le_of_ble_eq_true rfl) rfl (fun Q hQ => ?_)
  unfold f_X9_begin at hf
  refine xw_G (pc' := 1) (st' := [.ref 162]) rfl rfl trivial ?_
  refine xw_G (pc' := 2) (st' := [.int x1, .ref 162]) rfl rfl trivial ?_
  refine xw_G (pc' := 5) (st' := [.int (600 : Int32), .int x1, .ref 162]) rfl rfl trivial ?_
  refine xw_min rfl (Nat.le_of_ble_eq_true rfl) ?_
  refine xp_i rfl (xkf (xs_k hS rfl rfl : xm_k h 162 = (10, 0))) (Nat.le_of_ble_eq_true rfl) hf (fun h1 e2 hf => ?_)
  have hS := xS_si hS e2
  refine xw_G (pc' := 12) (st' := [.ref 162]) rfl rfl trivial ?_
  refine xw_G (pc' := 13) (st' := [.int (0 : Int32), .ref 162]) rfl rfl trivial ?_
  refine xp_i rfl (xkf (xs_k hS rfl rfl : xm_k h1 162 = (10, 0))) (Nat.le_of_ble_eq_true rfl) hf (fun h3 e4 hf => ?_)
  have hS := xS_si hS e4
  refine xw_G (pc' := 17) (st' := [.ref 162]) rfl rfl trivial ?_
  refine xb_e hf (fun v5 h6 e7 hf => ?_)
  refine xw_V (v := none) rfl rfl (xkf (xs_k hS rfl rfl : xm_k h3 162 = (10, 0))) (Nat.le_of_ble_eq_true rfl) (Nat.le_of_ble_eq_true rfl) (xm_Rn_le (Nat.le_of_ble_eq_true rfl) (t_X9_advance  hS e7).1) ?_
  have hS := (t_X9_advance  hS e7).2
  show xm_W _ _ _ 20 _ [] _
  exact xr_v (inj := xjv) rfl rfl hf hQ hS
def f_J0_coder_7d493 (x0 : Nat) (h : xm_H) : Option (Int32 × xm_H) := (if (xm_k h x0).1 = 12 then (if vp_nar .byte (xm_i h x0 1) = (xm_i h x0 1) then (some (xm_i h x0 1, h)) else none) else none)
theorem t_J0_coder_7d493 {ρ : Nat} {δ : Nat} {x0 : Nat} {h : xm_H} {w : Int32 × xm_H}  (hS : xS ρ δ h) (hf : f_J0_coder_7d493 x0 h = some w) : xm_Rn xX 1 277 [.ref x0] h (xji w.1) w.2 ∧ xS ρ δ w.2 := by
  refine xt_mk (φ := fun h => xS ρ δ h) (M := xM_J0_coder_7d493) (ls := [some (.ref x0)]) rfl (Nat.le_of_ble_eq_true rfl) rfl (fun Q hQ => ?_)
  unfold f_J0_coder_7d493 at hf
  refine xw_G (pc' := 3) (st' := [.int (1 : Int32)]) rfl rfl trivial ?_
  refine xw_G (pc' := 6) (st' := []) rfl rfl trivial ?_
  refine xw_G (pc' := 7) (st' := [.ref x0]) rfl rfl trivial ?_
  refine xg_e hf (fun hg1 hf => ?_)
  refine xw_G (pc' := 10) (st' := [.int (xm_i h x0 1)]) rfl rfl hg1 ?_
  refine xw_G (pc' := 14) (st' := [.int (xm_i h x0 1)]) rfl rfl trivial ?_
  refine xg_e hf (fun hg2 hf => ?_)
  exact xr_i (inj := xji) rfl rfl (xnar_b hg2) rfl hf hQ hS
def f_J0_length_8abf5 (x0 : Nat) (h : xm_H) : Option (Int32 × xm_H) := (if (xm_k h x0).1 = 12 then (xbr (xm_r h x0 0) fun b2 => (if 100 ≤ (xm_k h b2).1 ∧ (xm_k h b2).1 < 109 then (if (xm_k h x0).1 = 12 then (xb (f_J0_coder_7d493 x0 h) fun v5 h6 => (some ((Int32.ofNat (xm_k h b2).2) >>> (v5 &&& 31), h6))) else none) else none)) else none)
theorem t_J0_length_8abf5 {ρ : Nat} {δ : Nat} {x0 : Nat} {h : xm_H} {w : Int32 × xm_H}  (hS : xS ρ δ h) (hf : f_J0_length_8abf5 x0 h = some w) : xm_Rn xX 2 272 [.ref x0] h (xji w.1) w.2 ∧ xS ρ δ w.2 := by
  refine xt_mk (φ := fun h => xS ρ δ h) (M := xM_J0_length_8abf5) (ls := [some (.ref x0)]) rfl (Nat.le_of_ble_eq_true rfl) rfl (fun Q hQ => ?_)
  unfold f_J0_length_8abf5 at hf
  refine xw_G (pc' := 1) (st' := [.ref x0]) rfl rfl trivial ?_
  refine xg_e hf (fun hg1 hf => ?_)
  refine xbr_e hf (fun b2 hr3 hf => ?_)
  refine xw_gr rfl hg1 hr3 ?_
  refine xg_e hf (fun hg4 hf => ?_)
  refine xa_len rfl hg4 rfl ?_
  refine xw_G (pc' := 6) (st' := [.ref x0, .int (Int32.ofNat (xm_k h b2).2)]) rfl rfl trivial ?_
  refine xg_e hf (fun hg8 hf => ?_)
  refine xb_e hf (fun v5 h6 e7 hf => ?_)
  refine xw_V (v := some (.int v5)) rfl rfl hg8 (Nat.le_of_ble_eq_true rfl) (Nat.le_of_ble_eq_true rfl) (xm_Rn_le (Nat.le_of_ble_eq_true rfl) (t_J0_coder_7d493  hS e7).1) ?_
  have hS := (t_J0_coder_7d493  hS e7).2
  show xm_W _ _ _ 9 _ [.int v5, .int (Int32.ofNat (xm_k h b2).2)] _
  refine xw_G (pc' := 10) (st' := [.int ((Int32.ofNat (xm_k h b2).2) >>> (v5 &&& 31))]) rfl rfl trivial ?_
  exact xr_i (inj := xji) rfl rfl rfl rfl hf hQ hS
def f_J0_isLatin1_aae02 (x0 : Nat) (h : xm_H) : Option (Int32 × xm_H) := (if (xm_k h x0).1 = 12 then (if (xm_i h x0 1) = 0 then (some ((1 : Int32), h)) else (some ((0 : Int32), h))) else none)
theorem t_J0_isLatin1_aae02 {ρ : Nat} {δ : Nat} {x0 : Nat} {h : xm_H} {w : Int32 × xm_H}  (hS : xS ρ δ h) (hf : f_J0_isLatin1_aae02 x0 h = some w) : xm_Rn xX 1 278 [.ref x0] h (xji w.1) w.2 ∧ xS ρ δ w.2 := by
  refine xt_mk (φ := fun h => xS ρ δ h) (M := xM_J0_isLatin1_aae02) (ls := [some (.ref x0)]) rfl (Nat.le_of_ble_eq_true rfl) rfl (fun Q hQ => ?_)
  unfold f_J0_isLatin1_aae02 at hf
  refine xw_G (pc' := 3) (st' := [.int (1 : Int32)]) rfl rfl trivial ?_
  refine xw_G (pc' := 6) (st' := []) rfl rfl trivial ?_
  refine xw_G (pc' := 7) (st' := [.ref x0]) rfl rfl trivial ?_
  refine xg_e hf (fun hg1 hf => ?_)
  refine xw_G (pc' := 10) (st' := [.int (xm_i h x0 1)]) rfl rfl hg1 ?_
  refine xj_if_ne rfl hf (fun hc2 hf => ?_) (fun hc2 hf => ?_)
  · refine xw_G (pc' := 14) (st' := [.int (1 : Int32)]) rfl rfl trivial ?_
    refine xw_G (pc' := 18) (st' := [.int (1 : Int32)]) rfl rfl trivial ?_
    exact xr_i (inj := xji) rfl rfl rfl rfl hf hQ hS
  · refine xw_G (pc' := 18) (st' := [.int (0 : Int32)]) rfl rfl trivial ?_
    exact xr_i (inj := xji) rfl rfl rfl rfl hf hQ hS
def f_J3_checkIndex_8e157 (x0 : Int32) (x1 : Int32) (h : xm_H) : Option (Int32 × xm_H) := (if x0 < 0 then none else (if x0 < x1 then (some (x0, h)) else none))
theorem t_J3_checkIndex_8e157 {ρ : Nat} {δ : Nat} {x0 : Int32} {x1 : Int32} {w2 : Value} {h : xm_H} {w : Int32 × xm_H} (hw2 : w2 = .null ∨ ∃ a, w2 = .ref a) (hS : xS ρ δ h) (hf : f_J3_checkIndex_8e157 x0 x1 h = some w) : xm_Rn xX 1 324 [.int x0, .int x1, w2] h (xji w.1) w.2 ∧ xS ρ δ w.2 := by
  rcases hw2 with rfl | ⟨aq, rfl⟩
  · refine xt_mk (φ := fun h => xS ρ δ h) (M := xM_J3_checkIndex_8e157) (ls := [some (.int x0), some (.int x1), some .null]) rfl (Nat.le_of_ble_eq_true rfl) rfl (fun Q hQ => ?_)
    unfold f_J3_checkIndex_8e157 at hf
    refine xw_G (pc' := 1) (st' := [.int x0]) rfl rfl trivial ?_
    refine xj_if_lt rfl hf (fun hc1 hf => ?_) (fun hc1 hf => ?_)
    · exact (xn_e hf).elim
    · refine xw_G (pc' := 5) (st' := [.int x0]) rfl rfl trivial ?_
      refine xw_G (pc' := 6) (st' := [.int x1, .int x0]) rfl rfl trivial ?_
      refine xj_ic_lt rfl hf (fun hc2 hf => ?_) (fun hc2 hf => ?_)
      · refine xw_G (pc' := 17) (st' := [.int x0]) rfl rfl trivial ?_
        exact xr_i (inj := xji) rfl rfl rfl rfl hf hQ hS
      · exact (xn_e hf).elim
  · refine xt_mk (φ := fun h => xS ρ δ h) (M := xM_J3_checkIndex_8e157) (ls := [some (.int x0), some (.int x1), some (.ref aq)]) rfl (Nat.le_of_ble_eq_true rfl) rfl (fun Q hQ => ?_)
    unfold f_J3_checkIndex_8e157 at hf
    refine xw_G (pc' := 1) (st' := [.int x0]) rfl rfl trivial ?_
    refine xj_if_lt rfl hf (fun hc1 hf => ?_) (fun hc1 hf => ?_)
    · exact (xn_e hf).elim
    · refine xw_G (pc' := 5) (st' := [.int x0]) rfl rfl trivial ?_
      refine xw_G (pc' := 6) (st' := [.int x1, .int x0]) rfl rfl trivial ?_
      refine xj_ic_lt rfl hf (fun hc2 hf => ?_) (fun hc2 hf => ?_)
      · refine xw_G (pc' := 17) (st' := [.int x0]) rfl rfl trivial ?_
        exact xr_i (inj := xji) rfl rfl rfl rfl hf hQ hS
      · exact (xn_e hf).elim
def f_J0_checkIndex_df160 (x0 : Int32) (x1 : Int32) (h : xm_H) : Option (Unit × xm_H) := (xb (f_J3_checkIndex_8e157 x0 x1 h) fun v2 h3 => (some ((), h3)))
theorem t_J0_checkIndex_df160 {ρ : Nat} {δ : Nat} {x0 : Int32} {x1 : Int32} {h : xm_H} {w : Unit × xm_H}  (hS : xS ρ δ h) (hf : f_J0_checkIndex_df160 x0 x1 h = some w) : xm_Rn xX 2 279 [.int x0, .int x1] h (xjv w.1) w.2 ∧ xS ρ δ w.2 := by
  refine xt_mk (φ := fun h => xS ρ δ h) (M := xM_J0_checkIndex_df160) (ls := [some (.int x0), some (.int x1)]) rfl (Nat.le_of_ble_eq_true rfl) rfl (fun Q hQ => ?_)
  unfold f_J0_checkIndex_df160 at hf
  refine xw_G (pc' := 1) (st' := [.int x0]) rfl rfl trivial ?_
  refine xw_G (pc' := 2) (st' := [.int x1, .int x0]) rfl rfl trivial ?_
  refine xw_gs rfl (fun w1 hw1 => ?_)
  refine xb_e hf (fun v2 h3 e4 hf => ?_)
  refine xw_S (v := some (.int v2)) rfl (Nat.le_of_ble_eq_true rfl) (Nat.le_of_ble_eq_true rfl) (xm_Rn_le (Nat.le_of_ble_eq_true rfl) (t_J3_checkIndex_8e157 hw1 hS e4).1) ?_
  have hS := (t_J3_checkIndex_8e157 hw1 hS e4).2
  show xm_W _ _ _ 8 _ [.int v2] _
  refine xw_G (pc' := 9) (st' := []) rfl rfl rfl ?_
  exact xr_v (inj := xjv) rfl rfl hf hQ hS
def f_J1_charAt_3b067 (x0 : Nat) (x1 : Int32) (h : xm_H) : Option (Int32 × xm_H) := (if 100 ≤ (xm_k h x0).1 ∧ (xm_k h x0).1 < 109 then (xb (f_J0_checkIndex_df160 x1 (Int32.ofNat (xm_k h x0).2) h) fun v2 h3 => (if (xm_k h3 x0).1 = 102 then (if xin x1 (xm_k h3 x0).2 then (if vp_nar .char (((Int32.toUInt32 ((xm_i h3 x0 (Int32.toNatClampNeg x1)) &&& (255 : Int32))) % 65536).toInt32) = (((Int32.toUInt32 ((xm_i h3 x0 (Int32.toNatClampNeg x1)) &&& (255 : Int32))) % 65536).toInt32) then (some (((Int32.toUInt32 ((xm_i h3 x0 (Int32.toNatClampNeg x1)) &&& (255 : Int32))) % 65536).toInt32, h3)) else none) else none) else none)) else none)
theorem t_J1_charAt_3b067 {ρ : Nat} {δ : Nat} {x0 : Nat} {x1 : Int32} {h : xm_H} {w : Int32 × xm_H}  (hS : xS ρ δ h) (hf : f_J1_charAt_3b067 x0 x1 h = some w) : xm_Rn xX 3 291 [.ref x0, .int x1] h (xji w.1) w.2 ∧ xS ρ δ w.2 := by
  refine xt_mk (φ := fun h => xS ρ δ h) (M := xM_J1_charAt_3b067) (ls := [some (.ref x0), some (.int x1)]) rfl (Nat.le_of_ble_eq_true rfl) rfl (fun Q hQ => ?_)
  unfold f_J1_charAt_3b067 at hf
  refine xw_G (pc' := 1) (st' := [.int x1]) rfl rfl trivial ?_
  refine xw_G (pc' := 2) (st' := [.ref x0, .int x1]) rfl rfl trivial ?_
  refine xg_e hf (fun hg1 hf => ?_)
  refine xa_len rfl hg1 rfl ?_
  refine xb_e hf (fun v2 h3 e4 hf => ?_)
  refine xw_S (v := none) rfl (Nat.le_of_ble_eq_true rfl) (Nat.le_of_ble_eq_true rfl) (xm_Rn_le (Nat.le_of_ble_eq_true rfl) (t_J0_checkIndex_df160  hS e4).1) ?_
  have hS := (t_J0_checkIndex_df160  hS e4).2
  show xm_W _ _ _ 6 _ [] _
  refine xw_G (pc' := 7) (st' := [.ref x0]) rfl rfl trivial ?_
  refine xw_G (pc' := 8) (st' := [.int x1, .ref x0]) rfl rfl trivial ?_
  refine xg_e hf (fun hg5 hf => ?_)
  refine xg_e hf (fun hg6 hf => ?_)
  refine xa_ld (t := 102) (τ := 0) (v := .int (xm_i h3 x0 (Int32.toNatClampNeg x1))) rfl rfl hg5 rfl hg6 rfl ?_
  refine xw_G (pc' := 12) (st' := [.int (255 : Int32), .int (xm_i h3 x0 (Int32.toNatClampNeg x1))]) rfl rfl trivial ?_
  refine xw_G (pc' := 13) (st' := [.int ((xm_i h3 x0 (Int32.toNatClampNeg x1)) &&& (255 : Int32))]) rfl rfl trivial ?_
  refine xw_G (pc' := 14) (st' := [.int (((Int32.toUInt32 ((xm_i h3 x0 (Int32.toNatClampNeg x1)) &&& (255 : Int32))) % 65536).toInt32)]) rfl rfl trivial ?_
  refine xg_e hf (fun hg7 hf => ?_)
  exact xr_i (inj := xji) rfl rfl (xnar_c hg7) rfl hf hQ hS
def f_J0_charAt_5068e (x0 : Nat) (x1 : Int32) (h : xm_H) : Option (Int32 × xm_H) := (if (xm_k h x0).1 = 12 then (xb (f_J0_isLatin1_aae02 x0 h) fun v1 h2 => (if v1 = 0 then (if (xm_k h2 x0).1 = 12 then (xbr (xm_r h2 x0 0) fun b7 => none) else none) else (if (xm_k h2 x0).1 = 12 then (xbr (xm_r h2 x0 0) fun b10 => (xb (f_J1_charAt_3b067 b10 x1 h2) fun v12 h13 => (if vp_nar .char v12 = v12 then (some (v12, h13)) else none))) else none))) else none)
theorem t_J0_charAt_5068e {ρ : Nat} {δ : Nat} {x0 : Nat} {x1 : Int32} {h : xm_H} {w : Int32 × xm_H}  (hS : xS ρ δ h) (hf : f_J0_charAt_5068e x0 x1 h = some w) : xm_Rn xX 4 273 [.ref x0, .int x1] h (xji w.1) w.2 ∧ xS ρ δ w.2 := by
  refine xt_mk (φ := fun h => xS ρ δ h) (M := xM_J0_charAt_5068e) (ls := [some (.ref x0), some (.int x1)]) rfl (Nat.le_of_ble_eq_true rfl) rfl (fun Q hQ => ?_)
  unfold f_J0_charAt_5068e at hf
  refine xw_G (pc' := 1) (st' := [.ref x0]) rfl rfl trivial ?_
  refine xg_e hf (fun hg4 hf => ?_)
  refine xb_e hf (fun v1 h2 e3 hf => ?_)
  refine xw_V (v := some (.int v1)) rfl rfl hg4 (Nat.le_of_ble_eq_true rfl) (Nat.le_of_ble_eq_true rfl) (xm_Rn_le (Nat.le_of_ble_eq_true rfl) (t_J0_isLatin1_aae02  hS e3).1) ?_
  have hS := (t_J0_isLatin1_aae02  hS e3).2
  show xm_W _ _ _ 4 _ [.int v1] _
  refine xj_if_eq rfl hf (fun hc5 hf => ?_) (fun hc5 hf => ?_)
  · refine xw_G (pc' := 17) (st' := [.ref x0]) rfl rfl trivial ?_
    refine xg_e hf (fun hg6 hf => ?_)
    refine xbr_e hf (fun b7 hr8 hf => ?_)
    refine xw_gr rfl hg6 hr8 ?_
    refine xw_G (pc' := 21) (st' := [.int x1, .ref b7]) rfl rfl trivial ?_
    exact (xn_e hf).elim
  · refine xw_G (pc' := 8) (st' := [.ref x0]) rfl rfl trivial ?_
    refine xg_e hf (fun hg9 hf => ?_)
    refine xbr_e hf (fun b10 hr11 hf => ?_)
    refine xw_gr rfl hg9 hr11 ?_
    refine xw_G (pc' := 12) (st' := [.int x1, .ref b10]) rfl rfl trivial ?_
    refine xb_e hf (fun v12 h13 e14 hf => ?_)
    refine xw_S (v := some (.int v12)) rfl (Nat.le_of_ble_eq_true rfl) (Nat.le_of_ble_eq_true rfl) (xm_Rn_le (Nat.le_of_ble_eq_true rfl) (t_J1_charAt_3b067  hS e14).1) ?_
    have hS := (t_J1_charAt_3b067  hS e14).2
    show xm_W _ _ _ 15 _ [.int v12] _
    refine xg_e hf (fun hg15 hf => ?_)
    exact xr_i (inj := xji) rfl rfl (xnar_c hg15) rfl hf hQ hS
def f_X9_spells_28B (N : Nat) (c1 : Nat) (rec : Int32 → xm_H → Option (Int32 × xm_H)) (c2 : Int32) (h : xm_H) : Option (Int32 × xm_H) := (if (xm_k h c1).1 = 12 then (xb (f_J0_length_8abf5 c1 h) fun v1 h2 => (if c2 < v1 then (if (xm_k h2 c1).1 = 12 then (xb (f_J0_charAt_5068e c1 c2 h2) fun v6 h7 => (if xin ((xm_i h7 162 5) + c2) 600 then (if v6 = (xm_i h7 163 (Int32.toNatClampNeg ((xm_i h7 162 5) + c2))) then (rec (c2 + (1 : Int32)) h7) else (some ((0 : Int32), h7))) else none)) else none) else (some ((1 : Int32), h2)))) else none)
def f_X9_spells_28 (N : Nat) (c1 : Nat) : Nat → Int32 → xm_H → Option (Int32 × xm_H)
  | 0 => fun _ _ => none
  | n + 1 => fun c2 h => f_X9_spells_28B N c1 (f_X9_spells_28 N c1 n) c2 h
def f_X9_spells (N : Nat) (x1 : Nat) (h : xm_H) : Option (Int32 × xm_H) := (if (xm_i h 162 4) = (1 : Int32) then (if (xm_k h x1).1 = 12 then (xb (f_J0_length_8abf5 x1 h) fun v2 h3 => (if v2 = ((xm_i h3 162 3) - (xm_i h3 162 5)) then (f_X9_spells_28 N x1 N (0 : Int32) h3) else (some ((0 : Int32), h3)))) else none) else (some ((0 : Int32), h)))
theorem tl_X9_spells_28 {ρ : Nat} {δ : Nat} {N : Nat} {c1 : Nat} {Q : xm_O → xm_H → Prop} {w : Int32 × xm_H}  (hQ : xS ρ δ w.2 → Q (xji w.1) w.2)  : ∀ (n : Nat) (c2 : Int32) (h : xm_H), xS ρ δ h → f_X9_spells_28 N c1 n c2 h = some w → xm_W (xm_Rn xX 4) xM_X9_spells Q 28 [some (.ref 162), some (.ref c1), some (.int c2)] [] h := by
  intro n
  induction n with
  | zero =>
    intro c2 h hS hf
    exact (xn_e hf).elim
  | succ n ih =>
    intro c2 h hS hf
    replace hf : f_X9_spells_28B N c1 (f_X9_spells_28 N c1 n) c2 h = some w := hf
    unfold f_X9_spells_28B at hf
    refine xw_K (pc' := 29) (ls' := [some (.ref 162), some (.ref c1), some (.int c2)]) (st' := [.int c2]) rfl rfl trivial ?_
    refine xw_G (pc' := 30) (st' := [.ref c1, .int c2]) rfl rfl trivial ?_
    refine xg_e hf (fun hg4 hf => ?_)
    refine xb_e hf (fun v1 h2 e3 hf => ?_)
    refine xw_V (v := some (.int v1)) rfl rfl hg4 (Nat.le_of_ble_eq_true rfl) (Nat.le_of_ble_eq_true rfl) (xm_Rn_le (Nat.le_of_ble_eq_true rfl) (t_J0_length_8abf5  hS e3).1) ?_
    have hS := (t_J0_length_8abf5  hS e3).2
    show xm_W _ _ _ 33 _ [.int v1, .int c2] _
    refine xj_ic_ge rfl hf (fun hc5 hf => ?_) (fun hc5 hf => ?_)
    · refine xw_G (pc' := 37) (st' := [.ref c1]) rfl rfl trivial ?_
      refine xw_G (pc' := 38) (st' := [.int c2, .ref c1]) rfl rfl trivial ?_
      refine xg_e hf (fun hg9 hf => ?_)
      refine xb_e hf (fun v6 h7 e8 hf => ?_)
      refine xw_V (v := some (.int v6)) rfl rfl hg9 (Nat.le_of_ble_eq_true rfl) (Nat.le_of_ble_eq_true rfl) (xm_Rn_le (Nat.le_of_ble_eq_true rfl) (t_J0_charAt_5068e  hS e8).1) ?_
      have hS := (t_J0_charAt_5068e  hS e8).2
      show xm_W _ _ _ 41 _ [.int v6] _
      refine xw_G (pc' := 42) (st' := [.ref 162, .int v6]) rfl rfl trivial ?_
      refine xw_gr rfl (xkf (xs_k hS rfl rfl : xm_k h7 162 = (10, 0))) (xs_r hS rfl) ?_
      refine xw_G (pc' := 46) (st' := [.ref 162, .ref 163, .int v6]) rfl rfl trivial ?_
      refine xw_G (pc' := 49) (st' := [.int (xm_i h7 162 5), .ref 163, .int v6]) rfl rfl (xkf (xs_k hS rfl rfl : xm_k h7 162 = (10, 0))) ?_
      refine xw_G (pc' := 50) (st' := [.int c2, .int (xm_i h7 162 5), .ref 163, .int v6]) rfl rfl trivial ?_
      refine xw_G (pc' := 51) (st' := [.int ((xm_i h7 162 5) + c2), .ref 163, .int v6]) rfl rfl trivial ?_
      refine xg_e hf (fun hg10 hf => ?_)
      refine xa_ld (t := 103) (τ := 0) (v := .int (xm_i h7 163 (Int32.toNatClampNeg ((xm_i h7 162 5) + c2)))) rfl rfl (xkf (xs_k hS rfl rfl : xm_k h7 163 = (103, 600))) (xkn (xs_k hS rfl rfl : xm_k h7 163 = (103, 600))) hg10 rfl ?_
      refine xj_ic_eq rfl hf (fun hc11 hf => ?_) (fun hc11 hf => ?_)
      · refine xw_G (pc' := 60) (ls' := [some (.ref 162), some (.ref c1), some (.int (c2 + (1 : Int32)))]) (st' := []) rfl rfl (Nat.le_of_ble_eq_true rfl) ?_
        refine xw_G (pc' := 28) (st' := []) rfl rfl trivial ?_
        refine xw_M rfl rfl ?_
        exact ih _ _ hS hf
      · refine xw_G (pc' := 56) (st' := [.int (0 : Int32)]) rfl rfl trivial ?_
        exact xr_i (inj := xji) rfl rfl rfl rfl hf hQ hS
    · refine xw_G (pc' := 64) (st' := [.int (1 : Int32)]) rfl rfl trivial ?_
      exact xr_i (inj := xji) rfl rfl rfl rfl hf hQ hS
theorem t_X9_spells {N : Nat} {ρ : Nat} {δ : Nat} {x1 : Nat} {h : xm_H} {w : Int32 × xm_H}  (hS : xS ρ δ h) (hf : f_X9_spells N x1 h = some w) : xm_Rn xX 5 70 [.ref 162, .ref x1] h (xji w.1) w.2 ∧ xS ρ δ w.2 := by
  refine xt_mk (φ := fun h => xS ρ δ h) (M := xM_X9_spells) (ls := [some (.ref 162), some (.ref x1), none]) rfl (Nat.le_of_ble_eq_true rfl) rfl (fun Q hQ => ?_)
  unfold f_X9_spells at hf
  refine xw_G (pc' := 1) (st' := [.ref 162]) rfl rfl trivial ?_
  refine xw_G (pc' := 4) (st' := [.int (xm_i h 162 4)]) rfl rfl (xkf (xs_k hS rfl rfl : xm_k h 162 = (10, 0))) ?_
  refine xw_G (pc' := 5) (st' := [.int (1 : Int32), .int (xm_i h 162 4)]) rfl rfl trivial ?_
  refine xj_ic_ne rfl hf (fun hc1 hf => ?_) (fun hc1 hf => ?_)
  · refine xw_G (pc' := 9) (st' := [.ref x1]) rfl rfl trivial ?_
    refine xg_e hf (fun hg5 hf => ?_)
    refine xb_e hf (fun v2 h3 e4 hf => ?_)
    refine xw_V (v := some (.int v2)) rfl rfl hg5 (Nat.le_of_ble_eq_true rfl) (Nat.le_of_ble_eq_true rfl) (xm_Rn_le (Nat.le_of_ble_eq_true rfl) (t_J0_length_8abf5  hS e4).1) ?_
    have hS := (t_J0_length_8abf5  hS e4).2
    show xm_W _ _ _ 12 _ [.int v2] _
    refine xw_G (pc' := 13) (st' := [.ref 162, .int v2]) rfl rfl trivial ?_
    refine xw_G (pc' := 16) (st' := [.int (xm_i h3 162 3), .int v2]) rfl rfl (xkf (xs_k hS rfl rfl : xm_k h3 162 = (10, 0))) ?_
    refine xw_G (pc' := 17) (st' := [.ref 162, .int (xm_i h3 162 3), .int v2]) rfl rfl trivial ?_
    refine xw_G (pc' := 20) (st' := [.int (xm_i h3 162 5), .int (xm_i h3 162 3), .int v2]) rfl rfl (xkf (xs_k hS rfl rfl : xm_k h3 162 = (10, 0))) ?_
    refine xw_G (pc' := 21) (st' := [.int ((xm_i h3 162 3) - (xm_i h3 162 5)), .int v2]) rfl rfl trivial ?_
    refine xj_ic_eq rfl hf (fun hc6 hf => ?_) (fun hc6 hf => ?_)
    · refine xw_G (pc' := 27) (st' := [.int (0 : Int32)]) rfl rfl trivial ?_
      refine xw_G (pc' := 28) (ls' := [some (.ref 162), some (.ref x1), some (.int (0 : Int32))]) (st' := []) rfl rfl (Nat.le_of_ble_eq_true rfl) ?_
      refine xw_M rfl rfl ?_
      refine tl_X9_spells_28  hQ  _ _ _ hS hf
    · refine xw_G (pc' := 25) (st' := [.int (0 : Int32)]) rfl rfl trivial ?_
      exact xr_i (inj := xji) rfl rfl rfl rfl hf hQ hS
  · refine xw_G (pc' := 25) (st' := [.int (0 : Int32)]) rfl rfl trivial ?_
    exact xr_i (inj := xji) rfl rfl rfl rfl hf hQ hS
def f_X5_fail (x1 : Int32) (h : xm_H) : Option (Int32 × xm_H) := (xl (xm_si h 161 4 x1) fun h1 => (xl (xm_si h1 161 5 (xm_i h1 162 5)) fun h3 => (some ((0 : Int32), h3))))
theorem t_X5_fail {ρ : Nat} {δ : Nat} {x1 : Int32} {h : xm_H} {w : Int32 × xm_H}  (hS : xS ρ δ h) (hf : f_X5_fail x1 h = some w) : xm_Rn xX 1 55 [.ref 161, .int x1] h (xji w.1) w.2 ∧ xS ρ δ w.2 := by
  refine xt_mk (φ := fun h => xS ρ δ h) (M := xM_X5_fail) (ls := [some (.ref 161), some (.int x1)]) rfl (Nat.le_of_ble_eq_true rfl) rfl (fun Q hQ => ?_)
  unfold f_X5_fail at hf
  refine xw_G (pc' := 1) (st' := [.ref 161]) rfl rfl trivial ?_
  refine xw_G (pc' := 2) (st' := [.int x1, .ref 161]) rfl rfl trivial ?_
  refine xp_i rfl (xkf (xs_k hS rfl rfl : xm_k h 161 = (6, 0))) (Nat.le_of_ble_eq_true rfl) hf (fun h1 e2 hf => ?_)
  have hS := xS_si hS e2
  refine xw_G (pc' := 6) (st' := [.ref 161]) rfl rfl trivial ?_
  refine xw_G (pc' := 7) (st' := [.ref 161, .ref 161]) rfl rfl trivial ?_
  refine xw_gr rfl (xkf (xs_k hS rfl rfl : xm_k h1 161 = (6, 0))) (xs_r hS rfl) ?_
  refine xw_G (pc' := 13) (st' := [.int (xm_i h1 162 5), .ref 161]) rfl rfl (xkf (xs_k hS rfl rfl : xm_k h1 162 = (10, 0))) ?_
  refine xp_i rfl (xkf (xs_k hS rfl rfl : xm_k h1 161 = (6, 0))) (Nat.le_of_ble_eq_true rfl) hf (fun h3 e4 hf => ?_)
  have hS := xS_si hS e4
  refine xw_G (pc' := 17) (st' := [.int (0 : Int32)]) rfl rfl trivial ?_
  exact xr_i (inj := xji) rfl rfl rfl rfl hf hQ hS
def f_X5_unexpected  (h : xm_H) : Option (Int32 × xm_H) := (if (xm_i h 162 4) = (4 : Int32) then (xb (f_X5_fail (1 : Int32) h) fun v2 h3 => (if v2 = 0 ∨ v2 = 1 then (some (v2, h3)) else none)) else (xb (f_X5_fail (2 : Int32) h) fun v6 h7 => (if v6 = 0 ∨ v6 = 1 then (some (v6, h7)) else none)))
theorem t_X5_unexpected {ρ : Nat} {δ : Nat} {h : xm_H} {w : Int32 × xm_H}  (hS : xS ρ δ h) (hf : f_X5_unexpected  h = some w) : xm_Rn xX 2 54 [.ref 161] h (xji w.1) w.2 ∧ xS ρ δ w.2 := by
  refine xt_mk (φ := fun h => xS ρ δ h) (M := xM_X5_unexpected) (ls := [some (.ref 161)]) rfl (Nat.le_of_ble_eq_true rfl) rfl (fun Q hQ => ?_)
  unfold f_X5_unexpected at hf
  refine xw_G (pc' := 1) (st' := [.ref 161]) rfl rfl trivial ?_
  refine xw_G (pc' := 2) (st' := [.ref 161, .ref 161]) rfl rfl trivial ?_
  refine xw_gr rfl (xkf (xs_k hS rfl rfl : xm_k h 161 = (6, 0))) (xs_r hS rfl) ?_
  refine xw_G (pc' := 8) (st' := [.int (xm_i h 162 4), .ref 161]) rfl rfl (xkf (xs_k hS rfl rfl : xm_k h 162 = (10, 0))) ?_
  refine xw_G (pc' := 9) (st' := [.int (4 : Int32), .int (xm_i h 162 4), .ref 161]) rfl rfl trivial ?_
  refine xj_ic_ne rfl hf (fun hc1 hf => ?_) (fun hc1 hf => ?_)
  · refine xw_G (pc' := 13) (st' := [.int (1 : Int32), .ref 161]) rfl rfl trivial ?_
    refine xw_G (pc' := 17) (st' := [.int (1 : Int32), .ref 161]) rfl rfl trivial ?_
    refine xb_e hf (fun v2 h3 e4 hf => ?_)
    refine xw_V (v := some (.int v2)) rfl rfl (xkf (xs_k hS rfl rfl : xm_k h 161 = (6, 0))) (Nat.le_of_ble_eq_true rfl) (Nat.le_of_ble_eq_true rfl) (xm_Rn_le (Nat.le_of_ble_eq_true rfl) (t_X5_fail  hS e4).1) ?_
    have hS := (t_X5_fail  hS e4).2
    show xm_W _ _ _ 20 _ [.int v2] _
    refine xg_e hf (fun hg5 hf => ?_)
    exact xr_i (inj := xji) rfl rfl (xnar_z hg5).1 rfl hf hQ hS
  · refine xw_G (pc' := 17) (st' := [.int (2 : Int32), .ref 161]) rfl rfl trivial ?_
    refine xb_e hf (fun v6 h7 e8 hf => ?_)
    refine xw_V (v := some (.int v6)) rfl rfl (xkf (xs_k hS rfl rfl : xm_k h 161 = (6, 0))) (Nat.le_of_ble_eq_true rfl) (Nat.le_of_ble_eq_true rfl) (xm_Rn_le (Nat.le_of_ble_eq_true rfl) (t_X5_fail  hS e8).1) ?_
    have hS := (t_X5_fail  hS e8).2
    show xm_W _ _ _ 20 _ [.int v6] _
    refine xg_e hf (fun hg9 hf => ?_)
    exact xr_i (inj := xji) rfl rfl (xnar_z hg9).1 rfl hf hQ hS
def f_X5_isWithin (x1 : Int32) (x2 : Int32) (h : xm_H) : Option (Int32 × xm_H) := (if (xm_i h 162 6) < x1 then (some ((0 : Int32), h)) else (if x2 < (xm_i h 162 6) then (some ((0 : Int32), h)) else (some ((1 : Int32), h))))
theorem t_X5_isWithin {ρ : Nat} {δ : Nat} {x1 : Int32} {x2 : Int32} {h : xm_H} {w : Int32 × xm_H}  (hS : xS ρ δ h) (hf : f_X5_isWithin x1 x2 h = some w) : xm_Rn xX 1 52 [.ref 161, .int x1, .int x2] h (xji w.1) w.2 ∧ xS ρ δ w.2 := by
  refine xt_mk (φ := fun h => xS ρ δ h) (M := xM_X5_isWithin) (ls := [some (.ref 161), some (.int x1), some (.int x2)]) rfl (Nat.le_of_ble_eq_true rfl) rfl (fun Q hQ => ?_)
  unfold f_X5_isWithin at hf
  refine xw_G (pc' := 1) (st' := [.ref 161]) rfl rfl trivial ?_
  refine xw_gr rfl (xkf (xs_k hS rfl rfl : xm_k h 161 = (6, 0))) (xs_r hS rfl) ?_
  refine xw_G (pc' := 7) (st' := [.int (xm_i h 162 6)]) rfl rfl (xkf (xs_k hS rfl rfl : xm_k h 162 = (10, 0))) ?_
  refine xw_G (pc' := 8) (st' := [.int x1, .int (xm_i h 162 6)]) rfl rfl trivial ?_
  refine xj_ic_lt rfl hf (fun hc1 hf => ?_) (fun hc1 hf => ?_)
  · refine xw_G (pc' := 27) (st' := [.int (0 : Int32)]) rfl rfl trivial ?_
    exact xr_i (inj := xji) rfl rfl rfl rfl hf hQ hS
  · refine xw_G (pc' := 12) (st' := [.ref 161]) rfl rfl trivial ?_
    refine xw_gr rfl (xkf (xs_k hS rfl rfl : xm_k h 161 = (6, 0))) (xs_r hS rfl) ?_
    refine xw_G (pc' := 18) (st' := [.int (xm_i h 162 6)]) rfl rfl (xkf (xs_k hS rfl rfl : xm_k h 162 = (10, 0))) ?_
    refine xw_G (pc' := 19) (st' := [.int x2, .int (xm_i h 162 6)]) rfl rfl trivial ?_
    refine xj_ic_gt rfl hf (fun hc2 hf => ?_) (fun hc2 hf => ?_)
    · refine xw_G (pc' := 27) (st' := [.int (0 : Int32)]) rfl rfl trivial ?_
      exact xr_i (inj := xji) rfl rfl rfl rfl hf hQ hS
    · refine xw_G (pc' := 23) (st' := [.int (1 : Int32)]) rfl rfl trivial ?_
      refine xw_G (pc' := 27) (st' := [.int (1 : Int32)]) rfl rfl trivial ?_
      exact xr_i (inj := xji) rfl rfl rfl rfl hf hQ hS
def f_X5_takeNumber (N : Nat) (x1 : Int32) (x2 : Int32) (h : xm_H) : Option (Int32 × xm_H) := (if (xm_i h 162 4) = (2 : Int32) then (xb (f_X5_isWithin x1 x2 h) fun v2 h3 => (if v2 = 0 then (xb (f_X5_fail (3 : Int32) h3) fun v6 h7 => (if v6 = 0 ∨ v6 = 1 then (some (v6, h7)) else none)) else (xl (xm_si h3 161 1 (xm_i h3 162 6)) fun h10 => (xb (f_X9_advance N h10) fun v12 h13 => (some ((1 : Int32), h13)))))) else (xb (f_X5_unexpected h) fun v15 h16 => (if v15 = 0 ∨ v15 = 1 then (some (v15, h16)) else none)))
theorem t_X5_takeNumber {N : Nat} {ρ : Nat} {δ : Nat} {x1 : Int32} {x2 : Int32} {h : xm_H} {w : Int32 × xm_H}  (hS : xS ρ δ h) (hf : f_X5_takeNumber N x1 x2 h = some w) : xm_Rn xX 3 51 [.ref 161, .int x1, .int x2] h (xji w.1) w.2 ∧ xS ρ δ w.2 := by
  refine xt_mk (φ := fun h => xS ρ δ h) (M := xM_X5_takeNumber) (ls := [some (.ref 161), some (.int x1), some (.int x2)]) rfl (Nat.le_of_ble_eq_true rfl) rfl (fun Q hQ => ?_)
  unfold f_X5_takeNumber at hf
  refine xw_G (pc' := 1) (st' := [.ref 161]) rfl rfl trivial ?_
  refine xw_gr rfl (xkf (xs_k hS rfl rfl : xm_k h 161 = (6, 0))) (xs_r hS rfl) ?_
  refine xw_G (pc' := 7) (st' := [.int (xm_i h 162 4)]) rfl rfl (xkf (xs_k hS rfl rfl : xm_k h 162 = (10, 0))) ?_
  refine xw_G (pc' := 8) (st' := [.int (2 : Int32), .int (xm_i h 162 4)]) rfl rfl trivial ?_
  refine xj_ic_eq rfl hf (fun hc1 hf => ?_) (fun hc1 hf => ?_)
  · refine xw_G (pc' := 17) (st' := [.ref 161]) rfl rfl trivial ?_
    refine xw_G (pc' := 18) (st' := [.int x1, .ref 161]) rfl rfl trivial ?_
    refine xw_G (pc' := 19) (st' := [.int x2, .int x1, .ref 161]) rfl rfl trivial ?_
    refine xb_e hf (fun v2 h3 e4 hf => ?_)
    refine xw_V (v := some (.int v2)) rfl rfl (xkf (xs_k hS rfl rfl : xm_k h 161 = (6, 0))) (Nat.le_of_ble_eq_true rfl) (Nat.le_of_ble_eq_true rfl) (xm_Rn_le (Nat.le_of_ble_eq_true rfl) (t_X5_isWithin  hS e4).1) ?_
    have hS := (t_X5_isWithin  hS e4).2
    show xm_W _ _ _ 22 _ [.int v2] _
    refine xj_if_ne rfl hf (fun hc5 hf => ?_) (fun hc5 hf => ?_)
    · refine xw_G (pc' := 26) (st' := [.ref 161]) rfl rfl trivial ?_
      refine xw_G (pc' := 27) (st' := [.int (3 : Int32), .ref 161]) rfl rfl trivial ?_
      refine xb_e hf (fun v6 h7 e8 hf => ?_)
      refine xw_V (v := some (.int v6)) rfl rfl (xkf (xs_k hS rfl rfl : xm_k h3 161 = (6, 0))) (Nat.le_of_ble_eq_true rfl) (Nat.le_of_ble_eq_true rfl) (xm_Rn_le (Nat.le_of_ble_eq_true rfl) (t_X5_fail  hS e8).1) ?_
      have hS := (t_X5_fail  hS e8).2
      show xm_W _ _ _ 30 _ [.int v6] _
      refine xg_e hf (fun hg9 hf => ?_)
      exact xr_i (inj := xji) rfl rfl (xnar_z hg9).1 rfl hf hQ hS
    · refine xw_G (pc' := 32) (st' := [.ref 161]) rfl rfl trivial ?_
      refine xw_G (pc' := 33) (st' := [.ref 161, .ref 161]) rfl rfl trivial ?_
      refine xw_gr rfl (xkf (xs_k hS rfl rfl : xm_k h3 161 = (6, 0))) (xs_r hS rfl) ?_
      refine xw_G (pc' := 39) (st' := [.int (xm_i h3 162 6), .ref 161]) rfl rfl (xkf (xs_k hS rfl rfl : xm_k h3 162 = (10, 0))) ?_
      refine xp_i rfl (xkf (xs_k hS rfl rfl : xm_k h3 161 = (6, 0))) (Nat.le_of_ble_eq_true rfl) hf (fun h10 e11 hf => ?_)
      have hS := xS_si hS e11
      refine xw_G (pc' := 43) (st' := [.ref 161]) rfl rfl trivial ?_
      refine xw_gr rfl (xkf (xs_k hS rfl rfl : xm_k h10 161 = (6, 0))) (xs_r hS rfl) ?_
      refine xb_e hf (fun v12 h13 e14 hf => ?_)
      refine xw_V (v := none) rfl rfl (xkf (xs_k hS rfl rfl : xm_k h10 162 = (10, 0))) (Nat.le_of_ble_eq_true rfl) (Nat.le_of_ble_eq_true rfl) (xm_Rn_le (Nat.le_of_ble_eq_true rfl) (t_X9_advance  hS e14).1) ?_
      have hS := (t_X9_advance  hS e14).2
      show xm_W _ _ _ 49 _ [] _
      refine xw_G (pc' := 50) (st' := [.int (1 : Int32)]) rfl rfl trivial ?_
      exact xr_i (inj := xji) rfl rfl rfl rfl hf hQ hS
  · refine xw_G (pc' := 12) (st' := [.ref 161]) rfl rfl trivial ?_
    refine xb_e hf (fun v15 h16 e17 hf => ?_)
    refine xw_V (v := some (.int v15)) rfl rfl (xkf (xs_k hS rfl rfl : xm_k h 161 = (6, 0))) (Nat.le_of_ble_eq_true rfl) (Nat.le_of_ble_eq_true rfl) (xm_Rn_le (Nat.le_of_ble_eq_true rfl) (t_X5_unexpected  hS e17).1) ?_
    have hS := (t_X5_unexpected  hS e17).2
    show xm_W _ _ _ 15 _ [.int v15] _
    refine xg_e hf (fun hg18 hf => ?_)
    exact xr_i (inj := xji) rfl rfl (xnar_z hg18).1 rfl hf hQ hS
def f_X5_takeSemicolon (N : Nat) (h : xm_H) : Option (Int32 × xm_H) := (if (xm_i h 162 4) = (3 : Int32) then (xb (f_X9_advance N h) fun v2 h3 => (some ((1 : Int32), h3))) else (xb (f_X5_unexpected h) fun v5 h6 => (if v5 = 0 ∨ v5 = 1 then (some (v5, h6)) else none)))
theorem t_X5_takeSemicolon {N : Nat} {ρ : Nat} {δ : Nat} {h : xm_H} {w : Int32 × xm_H}  (hS : xS ρ δ h) (hf : f_X5_takeSemicolon N h = some w) : xm_Rn xX 3 53 [.ref 161] h (xji w.1) w.2 ∧ xS ρ δ w.2 := by
  refine xt_mk (φ := fun h => xS ρ δ h) (M := xM_X5_takeSemicolon) (ls := [some (.ref 161)]) rfl (Nat.le_of_ble_eq_true rfl) rfl (fun Q hQ => ?_)
  unfold f_X5_takeSemicolon at hf
  refine xw_G (pc' := 1) (st' := [.ref 161]) rfl rfl trivial ?_
  refine xw_gr rfl (xkf (xs_k hS rfl rfl : xm_k h 161 = (6, 0))) (xs_r hS rfl) ?_
  refine xw_G (pc' := 7) (st' := [.int (xm_i h 162 4)]) rfl rfl (xkf (xs_k hS rfl rfl : xm_k h 162 = (10, 0))) ?_
  refine xw_G (pc' := 8) (st' := [.int (3 : Int32), .int (xm_i h 162 4)]) rfl rfl trivial ?_
  refine xj_ic_eq rfl hf (fun hc1 hf => ?_) (fun hc1 hf => ?_)
  · refine xw_G (pc' := 17) (st' := [.ref 161]) rfl rfl trivial ?_
    refine xw_gr rfl (xkf (xs_k hS rfl rfl : xm_k h 161 = (6, 0))) (xs_r hS rfl) ?_
    refine xb_e hf (fun v2 h3 e4 hf => ?_)
    refine xw_V (v := none) rfl rfl (xkf (xs_k hS rfl rfl : xm_k h 162 = (10, 0))) (Nat.le_of_ble_eq_true rfl) (Nat.le_of_ble_eq_true rfl) (xm_Rn_le (Nat.le_of_ble_eq_true rfl) (t_X9_advance  hS e4).1) ?_
    have hS := (t_X9_advance  hS e4).2
    show xm_W _ _ _ 23 _ [] _
    refine xw_G (pc' := 24) (st' := [.int (1 : Int32)]) rfl rfl trivial ?_
    exact xr_i (inj := xji) rfl rfl rfl rfl hf hQ hS
  · refine xw_G (pc' := 12) (st' := [.ref 161]) rfl rfl trivial ?_
    refine xb_e hf (fun v5 h6 e7 hf => ?_)
    refine xw_V (v := some (.int v5)) rfl rfl (xkf (xs_k hS rfl rfl : xm_k h 161 = (6, 0))) (Nat.le_of_ble_eq_true rfl) (Nat.le_of_ble_eq_true rfl) (xm_Rn_le (Nat.le_of_ble_eq_true rfl) (t_X5_unexpected  hS e7).1) ?_
    have hS := (t_X5_unexpected  hS e7).2
    show xm_W _ _ _ 15 _ [.int v5] _
    refine xg_e hf (fun hg8 hf => ?_)
    exact xr_i (inj := xji) rfl rfl (xnar_z hg8).1 rfl hf hQ hS
def f_X5_day (N : Nat) (δ : Nat) (h : xm_H) : Option (Int32 × xm_H) := (xb (f_X9_advance N h) fun v1 h2 => (xb (f_X5_takeNumber N (1 : Int32) (999 : Int32) h2) fun v4 h5 => (if v4 = 0 then (some ((0 : Int32), h5)) else (xl (xm_si h5 δ 0 (xm_i h5 161 1)) fun h8 => (xb (f_X5_takeSemicolon N h8) fun v10 h11 => (if v10 = 0 ∨ v10 = 1 then (some (v10, h11)) else none))))))
theorem t_X5_day {N : Nat} {ρ : Nat} {δ : Nat} {h : xm_H} {w : Int32 × xm_H}  (hS : xS ρ δ h) (hf : f_X5_day N δ h = some w) : xm_Rn xX 4 39 [.ref 161] h (xji w.1) w.2 ∧ xS ρ δ w.2 := by
  refine xt_mk (φ := fun h => xS ρ δ h) (M := xM_X5_day) (ls := [some (.ref 161)]) rfl (Nat.le_of_ble_eq_true rfl) rfl (fun Q hQ => ?_)
  unfold f_X5_day at hf
  refine xw_G (pc' := 1) (st' := [.ref 161]) rfl rfl trivial ?_
  refine xw_gr rfl (xkf (xs_k hS rfl rfl : xm_k h 161 = (6, 0))) (xs_r hS rfl) ?_
  refine xb_e hf (fun v1 h2 e3 hf => ?_)
  refine xw_V (v := none) rfl rfl (xkf (xs_k hS rfl rfl : xm_k h 162 = (10, 0))) (Nat.le_of_ble_eq_true rfl) (Nat.le_of_ble_eq_true rfl) (xm_Rn_le (Nat.le_of_ble_eq_true rfl) (t_X9_advance  hS e3).1) ?_
  have hS := (t_X9_advance  hS e3).2
  show xm_W _ _ _ 7 _ [] _
  refine xw_G (pc' := 8) (st' := [.ref 161]) rfl rfl trivial ?_
  refine xw_G (pc' := 9) (st' := [.int (1 : Int32), .ref 161]) rfl rfl trivial ?_
  refine xw_G (pc' := 12) (st' := [.int (999 : Int32), .int (1 : Int32), .ref 161]) rfl rfl trivial ?_
  refine xb_e hf (fun v4 h5 e6 hf => ?_)
  refine xw_V (v := some (.int v4)) rfl rfl (xkf (xs_k hS rfl rfl : xm_k h2 161 = (6, 0))) (Nat.le_of_ble_eq_true rfl) (Nat.le_of_ble_eq_true rfl) (xm_Rn_le (Nat.le_of_ble_eq_true rfl) (t_X5_takeNumber  hS e6).1) ?_
  have hS := (t_X5_takeNumber  hS e6).2
  show xm_W _ _ _ 15 _ [.int v4] _
  refine xj_if_ne rfl hf (fun hc7 hf => ?_) (fun hc7 hf => ?_)
  · refine xw_G (pc' := 19) (st' := [.int (0 : Int32)]) rfl rfl trivial ?_
    exact xr_i (inj := xji) rfl rfl rfl rfl hf hQ hS
  · refine xw_G (pc' := 21) (st' := [.ref 161]) rfl rfl trivial ?_
    refine xw_gr rfl (xkf (xs_k hS rfl rfl : xm_k h5 161 = (6, 0))) (xs_del hS) ?_
    refine xw_G (pc' := 25) (st' := [.ref 161, .ref δ]) rfl rfl trivial ?_
    refine xw_G (pc' := 28) (st' := [.int (xm_i h5 161 1), .ref δ]) rfl rfl (xkf (xs_k hS rfl rfl : xm_k h5 161 = (6, 0))) ?_
    refine xp_i rfl (xkf (xsR0 hS (xs_D hS))) ((xs_D hS).ge 0) hf (fun h8 e9 hf => ?_)
    have hS := xS_si hS e9
    refine xw_G (pc' := 32) (st' := [.ref 161]) rfl rfl trivial ?_
    refine xb_e hf (fun v10 h11 e12 hf => ?_)
    refine xw_V (v := some (.int v10)) rfl rfl (xkf (xs_k hS rfl rfl : xm_k h8 161 = (6, 0))) (Nat.le_of_ble_eq_true rfl) (Nat.le_of_ble_eq_true rfl) (xm_Rn_le (Nat.le_of_ble_eq_true rfl) (t_X5_takeSemicolon  hS e12).1) ?_
    have hS := (t_X5_takeSemicolon  hS e12).2
    show xm_W _ _ _ 35 _ [.int v10] _
    refine xg_e hf (fun hg13 hf => ?_)
    exact xr_i (inj := xji) rfl rfl (xnar_z hg13).1 rfl hf hQ hS
def f_X5_attribution (N : Nat) (δ : Nat) (h : xm_H) : Option (Int32 × xm_H) := (xb (f_X9_advance N h) fun v1 h2 => (xb (f_X5_takeNumber N (1 : Int32) (999 : Int32) h2) fun v4 h5 => (if v4 = 0 then (some ((0 : Int32), h5)) else (xl (xm_si h5 δ 1 (xm_i h5 161 1)) fun h8 => (xb (f_X5_takeSemicolon N h8) fun v10 h11 => (if v10 = 0 ∨ v10 = 1 then (some (v10, h11)) else none))))))
theorem t_X5_attribution {N : Nat} {ρ : Nat} {δ : Nat} {h : xm_H} {w : Int32 × xm_H}  (hS : xS ρ δ h) (hf : f_X5_attribution N δ h = some w) : xm_Rn xX 4 40 [.ref 161] h (xji w.1) w.2 ∧ xS ρ δ w.2 := by
  refine xt_mk (φ := fun h => xS ρ δ h) (M := xM_X5_attribution) (ls := [some (.ref 161)]) rfl (Nat.le_of_ble_eq_true rfl) rfl (fun Q hQ => ?_)
  unfold f_X5_attribution at hf
  refine xw_G (pc' := 1) (st' := [.ref 161]) rfl rfl trivial ?_
  refine xw_gr rfl (xkf (xs_k hS rfl rfl : xm_k h 161 = (6, 0))) (xs_r hS rfl) ?_
  refine xb_e hf (fun v1 h2 e3 hf => ?_)
  refine xw_V (v := none) rfl rfl (xkf (xs_k hS rfl rfl : xm_k h 162 = (10, 0))) (Nat.le_of_ble_eq_true rfl) (Nat.le_of_ble_eq_true rfl) (xm_Rn_le (Nat.le_of_ble_eq_true rfl) (t_X9_advance  hS e3).1) ?_
  have hS := (t_X9_advance  hS e3).2
  show xm_W _ _ _ 7 _ [] _
  refine xw_G (pc' := 8) (st' := [.ref 161]) rfl rfl trivial ?_
  refine xw_G (pc' := 9) (st' := [.int (1 : Int32), .ref 161]) rfl rfl trivial ?_
  refine xw_G (pc' := 12) (st' := [.int (999 : Int32), .int (1 : Int32), .ref 161]) rfl rfl trivial ?_
  refine xb_e hf (fun v4 h5 e6 hf => ?_)
  refine xw_V (v := some (.int v4)) rfl rfl (xkf (xs_k hS rfl rfl : xm_k h2 161 = (6, 0))) (Nat.le_of_ble_eq_true rfl) (Nat.le_of_ble_eq_true rfl) (xm_Rn_le (Nat.le_of_ble_eq_true rfl) (t_X5_takeNumber  hS e6).1) ?_
  have hS := (t_X5_takeNumber  hS e6).2
  show xm_W _ _ _ 15 _ [.int v4] _
  refine xj_if_ne rfl hf (fun hc7 hf => ?_) (fun hc7 hf => ?_)
  · refine xw_G (pc' := 19) (st' := [.int (0 : Int32)]) rfl rfl trivial ?_
    exact xr_i (inj := xji) rfl rfl rfl rfl hf hQ hS
  · refine xw_G (pc' := 21) (st' := [.ref 161]) rfl rfl trivial ?_
    refine xw_gr rfl (xkf (xs_k hS rfl rfl : xm_k h5 161 = (6, 0))) (xs_del hS) ?_
    refine xw_G (pc' := 25) (st' := [.ref 161, .ref δ]) rfl rfl trivial ?_
    refine xw_G (pc' := 28) (st' := [.int (xm_i h5 161 1), .ref δ]) rfl rfl (xkf (xs_k hS rfl rfl : xm_k h5 161 = (6, 0))) ?_
    refine xp_i rfl (xkf (xsR0 hS (xs_D hS))) ((xs_D hS).ge 0) hf (fun h8 e9 hf => ?_)
    have hS := xS_si hS e9
    refine xw_G (pc' := 32) (st' := [.ref 161]) rfl rfl trivial ?_
    refine xb_e hf (fun v10 h11 e12 hf => ?_)
    refine xw_V (v := some (.int v10)) rfl rfl (xkf (xs_k hS rfl rfl : xm_k h8 161 = (6, 0))) (Nat.le_of_ble_eq_true rfl) (Nat.le_of_ble_eq_true rfl) (xm_Rn_le (Nat.le_of_ble_eq_true rfl) (t_X5_takeSemicolon  hS e12).1) ?_
    have hS := (t_X5_takeSemicolon  hS e12).2
    show xm_W _ _ _ 35 _ [.int v10] _
    refine xg_e hf (fun hg13 hf => ?_)
    exact xr_i (inj := xji) rfl rfl (xnar_z hg13).1 rfl hf hQ hS
def f_X5_factors_12B (N : Nat) (δ : Nat) (k32 : Int32 → xm_H → Option (Int32 × xm_H)) (k80 : Int32 → xm_H → Option (Int32 × xm_H)) (rec : Int32 → Int32 → xm_H → Option (Int32 × xm_H)) (c1 : Int32) (c2 : Int32) (h : xm_H) : Option (Int32 × xm_H) := (if c2 < (4 : Int32) then (if 0 < c2 then (if (xm_i h 162 4) = (3 : Int32) then (k32 c1 h) else (xb (f_X5_takeNumber N (1 : Int32) c1 h) fun v4 h5 => (if v4 = 0 then (some ((0 : Int32), h5)) else (if xin c2 4 then (xl (xm_si h5 (δ + 1) (Int32.toNatClampNeg c2) (xm_i h5 161 1)) fun h9 => (xl (xm_si h9 δ 3 (c2 + (1 : Int32))) fun h11 => (rec (xm_i h11 161 1) (c2 + (1 : Int32)) h11))) else none)))) else (xb (f_X5_takeNumber N (1 : Int32) c1 h) fun v13 h14 => (if v13 = 0 then (some ((0 : Int32), h14)) else (if xin c2 4 then (xl (xm_si h14 (δ + 1) (Int32.toNatClampNeg c2) (xm_i h14 161 1)) fun h18 => (xl (xm_si h18 δ 3 (c2 + (1 : Int32))) fun h20 => (rec (xm_i h20 161 1) (c2 + (1 : Int32)) h20))) else none)))) else (k80 c1 h))
def f_X5_factors_12 (N : Nat) (δ : Nat) (k32 : Int32 → xm_H → Option (Int32 × xm_H)) (k80 : Int32 → xm_H → Option (Int32 × xm_H)) : Nat → Int32 → Int32 → xm_H → Option (Int32 × xm_H)
  | 0 => fun _ _ _ => none
  | n + 1 => fun c1 c2 h => f_X5_factors_12B N δ k32 k80 (f_X5_factors_12 N δ k32 k80 n) c1 c2 h
def f_X5_factors (N : Nat) (δ : Nat) (h : xm_H) : Option (Int32 × xm_H) := (xb (f_X9_advance N h) fun v1 h2 => (f_X5_factors_12 N δ (fun (e4 : Int32) (h5 : xm_H) => (if (xm_i h5 162 4) = (2 : Int32) then (xb (f_X5_isWithin (1 : Int32) e4 h5) fun v7 h8 => (if v7 = 0 then (xb (f_X5_fail (3 : Int32) h8) fun v11 h12 => (if v11 = 0 ∨ v11 = 1 then (some (v11, h12)) else none)) else (xb (f_X5_fail (5 : Int32) h8) fun v15 h16 => (if v15 = 0 ∨ v15 = 1 then (some (v15, h16)) else none)))) else (xb (f_X5_takeSemicolon N h5) fun v19 h20 => (if v19 = 0 ∨ v19 = 1 then (some (v19, h20)) else none)))) (fun (e23 : Int32) (h24 : xm_H) => (if (xm_i h24 162 4) = (2 : Int32) then (xb (f_X5_isWithin (1 : Int32) e23 h24) fun v26 h27 => (if v26 = 0 then (xb (f_X5_fail (3 : Int32) h27) fun v30 h31 => (if v30 = 0 ∨ v30 = 1 then (some (v30, h31)) else none)) else (xb (f_X5_fail (5 : Int32) h27) fun v34 h35 => (if v34 = 0 ∨ v34 = 1 then (some (v34, h35)) else none)))) else (xb (f_X5_takeSemicolon N h24) fun v38 h39 => (if v38 = 0 ∨ v38 = 1 then (some (v38, h39)) else none)))) N (100 : Int32) (0 : Int32) h2))
theorem tl_X5_factors_12 {ρ : Nat} {N : Nat} {δ : Nat} {k32 : Int32 → xm_H → Option (Int32 × xm_H)} {k80 : Int32 → xm_H → Option (Int32 × xm_H)} {Q : xm_O → xm_H → Prop} {w : Int32 × xm_H}  (hQ : xS ρ δ w.2 → Q (xji w.1) w.2) (hk32 : ∀ (a0 : Int32) (h : xm_H), xS ρ δ h → k32 a0 h = some w → xm_W (xm_Rn xX 3) xM_X5_factors Q 32 [some (.ref 161), some (.int a0), none] [] h) (hk80 : ∀ (a0 : Int32) (h : xm_H), xS ρ δ h → k80 a0 h = some w → xm_W (xm_Rn xX 3) xM_X5_factors Q 80 [some (.ref 161), some (.int a0), none] [] h) : ∀ (n : Nat) (c1 : Int32) (c2 : Int32) (h : xm_H), xS ρ δ h → f_X5_factors_12 N δ k32 k80 n c1 c2 h = some w → xm_W (xm_Rn xX 3) xM_X5_factors Q 12 [some (.ref 161), some (.int c1), some (.int c2)] [] h := by
  intro n
  induction n with
  | zero =>
    intro c1 c2 h hS hf
    exact (xn_e hf).elim
  | succ n ih =>
    intro c1 c2 h hS hf
    replace hf : f_X5_factors_12B N δ k32 k80 (f_X5_factors_12 N δ k32 k80 n) c1 c2 h = some w := hf
    unfold f_X5_factors_12B at hf
    refine xw_K (pc' := 13) (ls' := [some (.ref 161), some (.int c1), some (.int c2)]) (st' := [.int c2]) rfl rfl trivial ?_
    refine xw_G (pc' := 14) (st' := [.int (4 : Int32), .int c2]) rfl rfl trivial ?_
    refine xj_ic_ge rfl hf (fun hc1 hf => ?_) (fun hc1 hf => ?_)
    · refine xw_G (pc' := 18) (st' := [.int c2]) rfl rfl trivial ?_
      refine xj_if_le rfl hf (fun hc2 hf => ?_) (fun hc2 hf => ?_)
      · refine xw_G (pc' := 22) (st' := [.ref 161]) rfl rfl trivial ?_
        refine xw_gr rfl (xkf (xs_k hS rfl rfl : xm_k h 161 = (6, 0))) (xs_r hS rfl) ?_
        refine xw_G (pc' := 28) (st' := [.int (xm_i h 162 4)]) rfl rfl (xkf (xs_k hS rfl rfl : xm_k h 162 = (10, 0))) ?_
        refine xw_G (pc' := 29) (st' := [.int (3 : Int32), .int (xm_i h 162 4)]) rfl rfl trivial ?_
        refine xj_ic_ne rfl hf (fun hc3 hf => ?_) (fun hc3 hf => ?_)
        · refine xw_M rfl rfl ?_
          exact hk32 _ _ hS hf
        · refine xw_G (pc' := 36) (st' := [.ref 161]) rfl rfl trivial ?_
          refine xw_G (pc' := 37) (st' := [.int (1 : Int32), .ref 161]) rfl rfl trivial ?_
          refine xw_G (pc' := 38) (st' := [.int c1, .int (1 : Int32), .ref 161]) rfl rfl trivial ?_
          refine xb_e hf (fun v4 h5 e6 hf => ?_)
          refine xw_V (v := some (.int v4)) rfl rfl (xkf (xs_k hS rfl rfl : xm_k h 161 = (6, 0))) (Nat.le_of_ble_eq_true rfl) (Nat.le_of_ble_eq_true rfl) (xm_Rn_le (Nat.le_of_ble_eq_true rfl) (t_X5_takeNumber  hS e6).1) ?_
          have hS := (t_X5_takeNumber  hS e6).2
          show xm_W _ _ _ 41 _ [.int v4] _
          refine xj_if_ne rfl hf (fun hc7 hf => ?_) (fun hc7 hf => ?_)
          · refine xw_G (pc' := 45) (st' := [.int (0 : Int32)]) rfl rfl trivial ?_
            exact xr_i (inj := xji) rfl rfl rfl rfl hf hQ hS
          · refine xw_G (pc' := 47) (st' := [.ref 161]) rfl rfl trivial ?_
            refine xw_gr rfl (xkf (xs_k hS rfl rfl : xm_k h5 161 = (6, 0))) (xs_del hS) ?_
            refine xw_gr rfl (xkf (xsR0 hS (xs_D hS))) (xsRr2 hS (xs_D hS)) ?_
            refine xw_G (pc' := 54) (st' := [.int c2, .ref (δ + 1)]) rfl rfl trivial ?_
            refine xw_G (pc' := 55) (st' := [.ref 161, .int c2, .ref (δ + 1)]) rfl rfl trivial ?_
            refine xw_G (pc' := 58) (st' := [.int (xm_i h5 161 1), .int c2, .ref (δ + 1)]) rfl rfl (xkf (xs_k hS rfl rfl : xm_k h5 161 = (6, 0))) ?_
            refine xg_e hf (fun hg8 hf => ?_)
            refine xa_i rfl (xkf (xsR1 hS (xs_D hS))) (xkn (xsR1 hS (xs_D hS))) hg8 ((xs_D hS).ge 1) hf (fun h9 e10 hf => ?_)
            have hS := xS_si hS e10
            refine xw_G (pc' := 60) (st' := [.ref 161]) rfl rfl trivial ?_
            refine xw_gr rfl (xkf (xs_k hS rfl rfl : xm_k h9 161 = (6, 0))) (xs_del hS) ?_
            refine xw_G (pc' := 64) (st' := [.int c2, .ref δ]) rfl rfl trivial ?_
            refine xw_G (pc' := 65) (st' := [.int (1 : Int32), .int c2, .ref δ]) rfl rfl trivial ?_
            refine xw_G (pc' := 66) (st' := [.int (c2 + (1 : Int32)), .ref δ]) rfl rfl trivial ?_
            refine xp_i rfl (xkf (xsR0 hS (xs_D hS))) ((xs_D hS).ge 0) hf (fun h11 e12 hf => ?_)
            have hS := xS_si hS e12
            refine xw_G (pc' := 70) (st' := [.ref 161]) rfl rfl trivial ?_
            refine xw_G (pc' := 73) (st' := [.int (xm_i h11 161 1)]) rfl rfl (xkf (xs_k hS rfl rfl : xm_k h11 161 = (6, 0))) ?_
            refine xw_G (pc' := 74) (ls' := [some (.ref 161), some (.int (xm_i h11 161 1)), some (.int c2)]) (st' := []) rfl rfl (Nat.le_of_ble_eq_true rfl) ?_
            refine xw_G (pc' := 77) (ls' := [some (.ref 161), some (.int (xm_i h11 161 1)), some (.int (c2 + (1 : Int32)))]) (st' := []) rfl rfl (Nat.le_of_ble_eq_true rfl) ?_
            refine xw_G (pc' := 12) (st' := []) rfl rfl trivial ?_
            refine xw_M rfl rfl ?_
            exact ih _ _ _ hS hf
      · refine xw_G (pc' := 36) (st' := [.ref 161]) rfl rfl trivial ?_
        refine xw_G (pc' := 37) (st' := [.int (1 : Int32), .ref 161]) rfl rfl trivial ?_
        refine xw_G (pc' := 38) (st' := [.int c1, .int (1 : Int32), .ref 161]) rfl rfl trivial ?_
        refine xb_e hf (fun v13 h14 e15 hf => ?_)
        refine xw_V (v := some (.int v13)) rfl rfl (xkf (xs_k hS rfl rfl : xm_k h 161 = (6, 0))) (Nat.le_of_ble_eq_true rfl) (Nat.le_of_ble_eq_true rfl) (xm_Rn_le (Nat.le_of_ble_eq_true rfl) (t_X5_takeNumber  hS e15).1) ?_
        have hS := (t_X5_takeNumber  hS e15).2
        show xm_W _ _ _ 41 _ [.int v13] _
        refine xj_if_ne rfl hf (fun hc16 hf => ?_) (fun hc16 hf => ?_)
        · refine xw_G (pc' := 45) (st' := [.int (0 : Int32)]) rfl rfl trivial ?_
          exact xr_i (inj := xji) rfl rfl rfl rfl hf hQ hS
        · refine xw_G (pc' := 47) (st' := [.ref 161]) rfl rfl trivial ?_
          refine xw_gr rfl (xkf (xs_k hS rfl rfl : xm_k h14 161 = (6, 0))) (xs_del hS) ?_
          refine xw_gr rfl (xkf (xsR0 hS (xs_D hS))) (xsRr2 hS (xs_D hS)) ?_
          refine xw_G (pc' := 54) (st' := [.int c2, .ref (δ + 1)]) rfl rfl trivial ?_
          refine xw_G (pc' := 55) (st' := [.ref 161, .int c2, .ref (δ + 1)]) rfl rfl trivial ?_
          refine xw_G (pc' := 58) (st' := [.int (xm_i h14 161 1), .int c2, .ref (δ + 1)]) rfl rfl (xkf (xs_k hS rfl rfl : xm_k h14 161 = (6, 0))) ?_
          refine xg_e hf (fun hg17 hf => ?_)
          refine xa_i rfl (xkf (xsR1 hS (xs_D hS))) (xkn (xsR1 hS (xs_D hS))) hg17 ((xs_D hS).ge 1) hf (fun h18 e19 hf => ?_)
          have hS := xS_si hS e19
          refine xw_G (pc' := 60) (st' := [.ref 161]) rfl rfl trivial ?_
          refine xw_gr rfl (xkf (xs_k hS rfl rfl : xm_k h18 161 = (6, 0))) (xs_del hS) ?_
          refine xw_G (pc' := 64) (st' := [.int c2, .ref δ]) rfl rfl trivial ?_
          refine xw_G (pc' := 65) (st' := [.int (1 : Int32), .int c2, .ref δ]) rfl rfl trivial ?_
          refine xw_G (pc' := 66) (st' := [.int (c2 + (1 : Int32)), .ref δ]) rfl rfl trivial ?_
          refine xp_i rfl (xkf (xsR0 hS (xs_D hS))) ((xs_D hS).ge 0) hf (fun h20 e21 hf => ?_)
          have hS := xS_si hS e21
          refine xw_G (pc' := 70) (st' := [.ref 161]) rfl rfl trivial ?_
          refine xw_G (pc' := 73) (st' := [.int (xm_i h20 161 1)]) rfl rfl (xkf (xs_k hS rfl rfl : xm_k h20 161 = (6, 0))) ?_
          refine xw_G (pc' := 74) (ls' := [some (.ref 161), some (.int (xm_i h20 161 1)), some (.int c2)]) (st' := []) rfl rfl (Nat.le_of_ble_eq_true rfl) ?_
          refine xw_G (pc' := 77) (ls' := [some (.ref 161), some (.int (xm_i h20 161 1)), some (.int (c2 + (1 : Int32)))]) (st' := []) rfl rfl (Nat.le_of_ble_eq_true rfl) ?_
          refine xw_G (pc' := 12) (st' := []) rfl rfl trivial ?_
          refine xw_M rfl rfl ?_
          exact ih _ _ _ hS hf
    · refine xw_M rfl rfl ?_
      exact hk80 _ _ hS hf
theorem t_X5_factors {N : Nat} {ρ : Nat} {δ : Nat} {h : xm_H} {w : Int32 × xm_H}  (hS : xS ρ δ h) (hf : f_X5_factors N δ h = some w) : xm_Rn xX 4 41 [.ref 161] h (xji w.1) w.2 ∧ xS ρ δ w.2 := by
  refine xt_mk (φ := fun h => xS ρ δ h) (M := xM_X5_factors) (ls := [some (.ref 161), none, none]) rfl (Nat.le_of_ble_eq_true rfl) rfl (fun Q hQ => ?_)
  unfold f_X5_factors at hf
  refine xw_G (pc' := 1) (st' := [.ref 161]) rfl rfl trivial ?_
  refine xw_gr rfl (xkf (xs_k hS rfl rfl : xm_k h 161 = (6, 0))) (xs_r hS rfl) ?_
  refine xb_e hf (fun v1 h2 e3 hf => ?_)
  refine xw_V (v := none) rfl rfl (xkf (xs_k hS rfl rfl : xm_k h 162 = (10, 0))) (Nat.le_of_ble_eq_true rfl) (Nat.le_of_ble_eq_true rfl) (xm_Rn_le (Nat.le_of_ble_eq_true rfl) (t_X9_advance  hS e3).1) ?_
  have hS := (t_X9_advance  hS e3).2
  show xm_W _ _ _ 7 _ [] _
  refine xw_G (pc' := 9) (st' := [.int (100 : Int32)]) rfl rfl trivial ?_
  refine xw_G (pc' := 10) (ls' := [some (.ref 161), some (.int (100 : Int32)), none]) (st' := []) rfl rfl (Nat.le_of_ble_eq_true rfl) ?_
  refine xw_G (pc' := 11) (st' := [.int (0 : Int32)]) rfl rfl trivial ?_
  refine xw_G (pc' := 12) (ls' := [some (.ref 161), some (.int (100 : Int32)), some (.int (0 : Int32))]) (st' := []) rfl rfl (Nat.le_of_ble_eq_true rfl) ?_
  refine xw_M rfl rfl ?_
  refine tl_X5_factors_12  hQ (fun e4 h5 hS hf => ?_) (fun e23 h24 hS hf => ?_) _ _ _ _ hS hf
  · refine xw_K (pc' := 80) (ls' := [some (.ref 161), some (.int e4), none]) (st' := []) rfl rfl trivial ?_
    refine xw_K (pc' := 81) (ls' := [some (.ref 161), some (.int e4), none]) (st' := [.ref 161]) rfl rfl trivial ?_
    refine xw_gr rfl (xkf (xs_k hS rfl rfl : xm_k h5 161 = (6, 0))) (xs_r hS rfl) ?_
    refine xw_G (pc' := 87) (st' := [.int (xm_i h5 162 4)]) rfl rfl (xkf (xs_k hS rfl rfl : xm_k h5 162 = (10, 0))) ?_
    refine xw_G (pc' := 88) (st' := [.int (2 : Int32), .int (xm_i h5 162 4)]) rfl rfl trivial ?_
    refine xj_ic_ne rfl hf (fun hc6 hf => ?_) (fun hc6 hf => ?_)
    · refine xw_G (pc' := 92) (st' := [.ref 161]) rfl rfl trivial ?_
      refine xw_G (pc' := 93) (st' := [.ref 161, .ref 161]) rfl rfl trivial ?_
      refine xw_G (pc' := 94) (st' := [.int (1 : Int32), .ref 161, .ref 161]) rfl rfl trivial ?_
      refine xw_G (pc' := 95) (st' := [.int e4, .int (1 : Int32), .ref 161, .ref 161]) rfl rfl trivial ?_
      refine xb_e hf (fun v7 h8 e9 hf => ?_)
      refine xw_V (v := some (.int v7)) rfl rfl (xkf (xs_k hS rfl rfl : xm_k h5 161 = (6, 0))) (Nat.le_of_ble_eq_true rfl) (Nat.le_of_ble_eq_true rfl) (xm_Rn_le (Nat.le_of_ble_eq_true rfl) (t_X5_isWithin  hS e9).1) ?_
      have hS := (t_X5_isWithin  hS e9).2
      show xm_W _ _ _ 98 _ [.int v7, .ref 161] _
      refine xj_if_eq rfl hf (fun hc10 hf => ?_) (fun hc10 hf => ?_)
      · refine xw_G (pc' := 106) (st' := [.int (3 : Int32), .ref 161]) rfl rfl trivial ?_
        refine xb_e hf (fun v11 h12 e13 hf => ?_)
        refine xw_V (v := some (.int v11)) rfl rfl (xkf (xs_k hS rfl rfl : xm_k h8 161 = (6, 0))) (Nat.le_of_ble_eq_true rfl) (Nat.le_of_ble_eq_true rfl) (xm_Rn_le (Nat.le_of_ble_eq_true rfl) (t_X5_fail  hS e13).1) ?_
        have hS := (t_X5_fail  hS e13).2
        show xm_W _ _ _ 109 _ [.int v11] _
        refine xg_e hf (fun hg14 hf => ?_)
        exact xr_i (inj := xji) rfl rfl (xnar_z hg14).1 rfl hf hQ hS
      · refine xw_G (pc' := 102) (st' := [.int (5 : Int32), .ref 161]) rfl rfl trivial ?_
        refine xw_G (pc' := 106) (st' := [.int (5 : Int32), .ref 161]) rfl rfl trivial ?_
        refine xb_e hf (fun v15 h16 e17 hf => ?_)
        refine xw_V (v := some (.int v15)) rfl rfl (xkf (xs_k hS rfl rfl : xm_k h8 161 = (6, 0))) (Nat.le_of_ble_eq_true rfl) (Nat.le_of_ble_eq_true rfl) (xm_Rn_le (Nat.le_of_ble_eq_true rfl) (t_X5_fail  hS e17).1) ?_
        have hS := (t_X5_fail  hS e17).2
        show xm_W _ _ _ 109 _ [.int v15] _
        refine xg_e hf (fun hg18 hf => ?_)
        exact xr_i (inj := xji) rfl rfl (xnar_z hg18).1 rfl hf hQ hS
    · refine xw_G (pc' := 111) (st' := [.ref 161]) rfl rfl trivial ?_
      refine xb_e hf (fun v19 h20 e21 hf => ?_)
      refine xw_V (v := some (.int v19)) rfl rfl (xkf (xs_k hS rfl rfl : xm_k h5 161 = (6, 0))) (Nat.le_of_ble_eq_true rfl) (Nat.le_of_ble_eq_true rfl) (xm_Rn_le (Nat.le_of_ble_eq_true rfl) (t_X5_takeSemicolon  hS e21).1) ?_
      have hS := (t_X5_takeSemicolon  hS e21).2
      show xm_W _ _ _ 114 _ [.int v19] _
      refine xg_e hf (fun hg22 hf => ?_)
      exact xr_i (inj := xji) rfl rfl (xnar_z hg22).1 rfl hf hQ hS
  · refine xw_K (pc' := 81) (ls' := [some (.ref 161), some (.int e23), none]) (st' := [.ref 161]) rfl rfl trivial ?_
    refine xw_gr rfl (xkf (xs_k hS rfl rfl : xm_k h24 161 = (6, 0))) (xs_r hS rfl) ?_
    refine xw_G (pc' := 87) (st' := [.int (xm_i h24 162 4)]) rfl rfl (xkf (xs_k hS rfl rfl : xm_k h24 162 = (10, 0))) ?_
    refine xw_G (pc' := 88) (st' := [.int (2 : Int32), .int (xm_i h24 162 4)]) rfl rfl trivial ?_
    refine xj_ic_ne rfl hf (fun hc25 hf => ?_) (fun hc25 hf => ?_)
    · refine xw_G (pc' := 92) (st' := [.ref 161]) rfl rfl trivial ?_
      refine xw_G (pc' := 93) (st' := [.ref 161, .ref 161]) rfl rfl trivial ?_
      refine xw_G (pc' := 94) (st' := [.int (1 : Int32), .ref 161, .ref 161]) rfl rfl trivial ?_
      refine xw_G (pc' := 95) (st' := [.int e23, .int (1 : Int32), .ref 161, .ref 161]) rfl rfl trivial ?_
      refine xb_e hf (fun v26 h27 e28 hf => ?_)
      refine xw_V (v := some (.int v26)) rfl rfl (xkf (xs_k hS rfl rfl : xm_k h24 161 = (6, 0))) (Nat.le_of_ble_eq_true rfl) (Nat.le_of_ble_eq_true rfl) (xm_Rn_le (Nat.le_of_ble_eq_true rfl) (t_X5_isWithin  hS e28).1) ?_
      have hS := (t_X5_isWithin  hS e28).2
      show xm_W _ _ _ 98 _ [.int v26, .ref 161] _
      refine xj_if_eq rfl hf (fun hc29 hf => ?_) (fun hc29 hf => ?_)
      · refine xw_G (pc' := 106) (st' := [.int (3 : Int32), .ref 161]) rfl rfl trivial ?_
        refine xb_e hf (fun v30 h31 e32 hf => ?_)
        refine xw_V (v := some (.int v30)) rfl rfl (xkf (xs_k hS rfl rfl : xm_k h27 161 = (6, 0))) (Nat.le_of_ble_eq_true rfl) (Nat.le_of_ble_eq_true rfl) (xm_Rn_le (Nat.le_of_ble_eq_true rfl) (t_X5_fail  hS e32).1) ?_
        have hS := (t_X5_fail  hS e32).2
        show xm_W _ _ _ 109 _ [.int v30] _
        refine xg_e hf (fun hg33 hf => ?_)
        exact xr_i (inj := xji) rfl rfl (xnar_z hg33).1 rfl hf hQ hS
      · refine xw_G (pc' := 102) (st' := [.int (5 : Int32), .ref 161]) rfl rfl trivial ?_
        refine xw_G (pc' := 106) (st' := [.int (5 : Int32), .ref 161]) rfl rfl trivial ?_
        refine xb_e hf (fun v34 h35 e36 hf => ?_)
        refine xw_V (v := some (.int v34)) rfl rfl (xkf (xs_k hS rfl rfl : xm_k h27 161 = (6, 0))) (Nat.le_of_ble_eq_true rfl) (Nat.le_of_ble_eq_true rfl) (xm_Rn_le (Nat.le_of_ble_eq_true rfl) (t_X5_fail  hS e36).1) ?_
        have hS := (t_X5_fail  hS e36).2
        show xm_W _ _ _ 109 _ [.int v34] _
        refine xg_e hf (fun hg37 hf => ?_)
        exact xr_i (inj := xji) rfl rfl (xnar_z hg37).1 rfl hf hQ hS
    · refine xw_G (pc' := 111) (st' := [.ref 161]) rfl rfl trivial ?_
      refine xb_e hf (fun v38 h39 e40 hf => ?_)
      refine xw_V (v := some (.int v38)) rfl rfl (xkf (xs_k hS rfl rfl : xm_k h24 161 = (6, 0))) (Nat.le_of_ble_eq_true rfl) (Nat.le_of_ble_eq_true rfl) (xm_Rn_le (Nat.le_of_ble_eq_true rfl) (t_X5_takeSemicolon  hS e40).1) ?_
      have hS := (t_X5_takeSemicolon  hS e40).2
      show xm_W _ _ _ 114 _ [.int v38] _
      refine xg_e hf (fun hg41 hf => ?_)
      exact xr_i (inj := xji) rfl rfl (xnar_z hg41).1 rfl hf hQ hS
def f_X5_findTag_2B (N : Nat) (δ : Nat) (rec : Int32 → xm_H → Option (Int32 × xm_H)) (c1 : Int32) (h : xm_H) : Option (Int32 × xm_H) := (if c1 < (xm_i h δ 5) then (if xin c1 6 then (xbr (xm_r h (δ + 3 + Int32.toNatClampNeg c1) 0) fun b3 => (xb (f_X9_spells N b3 h) fun v5 h6 => (if v5 = 0 then (rec (c1 + (1 : Int32)) h6) else (some (c1, h6))))) else none) else (some ((-1 : Int32), h)))
def f_X5_findTag_2 (N : Nat) (δ : Nat) : Nat → Int32 → xm_H → Option (Int32 × xm_H)
  | 0 => fun _ _ => none
  | n + 1 => fun c1 h => f_X5_findTag_2B N δ (f_X5_findTag_2 N δ n) c1 h
def f_X5_findTag (N : Nat) (δ : Nat) (h : xm_H) : Option (Int32 × xm_H) := (f_X5_findTag_2 N δ N (0 : Int32) h)
theorem tl_X5_findTag_2 {ρ : Nat} {N : Nat} {δ : Nat} {Q : xm_O → xm_H → Prop} {w : Int32 × xm_H}  (hQ : xS ρ δ w.2 → Q (xji w.1) w.2)  : ∀ (n : Nat) (c1 : Int32) (h : xm_H), xS ρ δ h → f_X5_findTag_2 N δ n c1 h = some w → xm_W (xm_Rn xX 5) xM_X5_findTag Q 2 [some (.ref 161), some (.int c1)] [] h := by
  intro n
  induction n with
  | zero =>
    intro c1 h hS hf
    exact (xn_e hf).elim
  | succ n ih =>
    intro c1 h hS hf
    replace hf : f_X5_findTag_2B N δ (f_X5_findTag_2 N δ n) c1 h = some w := hf
    unfold f_X5_findTag_2B at hf
    refine xw_K (pc' := 3) (ls' := [some (.ref 161), some (.int c1)]) (st' := [.int c1]) rfl rfl trivial ?_
    refine xw_G (pc' := 4) (st' := [.ref 161, .int c1]) rfl rfl trivial ?_
    refine xw_gr rfl (xkf (xs_k hS rfl rfl : xm_k h 161 = (6, 0))) (xs_del hS) ?_
    refine xw_G (pc' := 10) (st' := [.int (xm_i h δ 5), .int c1]) rfl rfl (xkf (xsR0 hS (xs_D hS))) ?_
    refine xj_ic_ge rfl hf (fun hc1 hf => ?_) (fun hc1 hf => ?_)
    · refine xw_G (pc' := 14) (st' := [.ref 161]) rfl rfl trivial ?_
      refine xw_gr rfl (xkf (xs_k hS rfl rfl : xm_k h 161 = (6, 0))) (xs_r hS rfl) ?_
      refine xw_G (pc' := 18) (st' := [.ref 161, .ref 162]) rfl rfl trivial ?_
      refine xw_gr rfl (xkf (xs_k hS rfl rfl : xm_k h 161 = (6, 0))) (xs_del hS) ?_
      refine xw_gr rfl (xkf (xsR0 hS (xs_D hS))) (xsRr4 hS (xs_D hS)) ?_
      refine xw_G (pc' := 25) (st' := [.int c1, .ref (δ + 2), .ref 162]) rfl rfl trivial ?_
      refine xg_e hf (fun hg2 hf => ?_)
      refine xa_ar (b := (δ + 3 + Int32.toNatClampNeg c1)) rfl (xkf (xsR2 hS (xs_D hS))) (xkn (xsR2 hS (xs_D hS))) hg2 (xsTag hS (xs_D hS) hg2) ?_
      refine xbr_e hf (fun b3 hr4 hf => ?_)
      refine xw_gr rfl (xkf (xsT hS (xIsT_mk (j := c1) (xs_D hS) hg2))) hr4 ?_
      refine xb_e hf (fun v5 h6 e7 hf => ?_)
      refine xw_V (v := some (.int v5)) rfl rfl (xkf (xs_k hS rfl rfl : xm_k h 162 = (10, 0))) (Nat.le_of_ble_eq_true rfl) (Nat.le_of_ble_eq_true rfl) (xm_Rn_le (Nat.le_of_ble_eq_true rfl) (t_X9_spells  hS e7).1) ?_
      have hS := (t_X9_spells  hS e7).2
      show xm_W _ _ _ 32 _ [.int v5] _
      refine xj_if_eq rfl hf (fun hc8 hf => ?_) (fun hc8 hf => ?_)
      · refine xw_G (pc' := 40) (ls' := [some (.ref 161), some (.int (c1 + (1 : Int32)))]) (st' := []) rfl rfl (Nat.le_of_ble_eq_true rfl) ?_
        refine xw_G (pc' := 2) (st' := []) rfl rfl trivial ?_
        refine xw_M rfl rfl ?_
        exact ih _ _ hS hf
      · refine xw_G (pc' := 36) (st' := [.int c1]) rfl rfl trivial ?_
        exact xr_i (inj := xji) rfl rfl rfl rfl hf hQ hS
    · refine xw_G (pc' := 44) (st' := [.int (-1 : Int32)]) rfl rfl trivial ?_
      exact xr_i (inj := xji) rfl rfl rfl rfl hf hQ hS
theorem t_X5_findTag {N : Nat} {ρ : Nat} {δ : Nat} {h : xm_H} {w : Int32 × xm_H}  (hS : xS ρ δ h) (hf : f_X5_findTag N δ h = some w) : xm_Rn xX 6 49 [.ref 161] h (xji w.1) w.2 ∧ xS ρ δ w.2 := by
  refine xt_mk (φ := fun h => xS ρ δ h) (M := xM_X5_findTag) (ls := [some (.ref 161), none]) rfl (Nat.le_of_ble_eq_true rfl) rfl (fun Q hQ => ?_)
  unfold f_X5_findTag at hf
  refine xw_G (pc' := 1) (st' := [.int (0 : Int32)]) rfl rfl trivial ?_
  refine xw_G (pc' := 2) (ls' := [some (.ref 161), some (.int (0 : Int32))]) (st' := []) rfl rfl (Nat.le_of_ble_eq_true rfl) ?_
  refine xw_M rfl rfl ?_
  refine tl_X5_findTag_2  hQ  _ _ _ hS hf
def f_X5_isNewName (N : Nat) (x1 : Int32) (h : xm_H) : Option (Int32 × xm_H) := (if (xm_i h 162 4) = (1 : Int32) then (xb (f_X9_spells N 17 h) fun v2 h3 => (if v2 = 0 then (if x1 = (-1 : Int32) then (some ((1 : Int32), h3)) else (xb (f_X5_fail (4 : Int32) h3) fun v7 h8 => (if v7 = 0 then (some ((0 : Int32), h8)) else (some ((1 : Int32), h8))))) else (xb (f_X5_unexpected h3) fun v11 h12 => (if v11 = 0 ∨ v11 = 1 then (some (v11, h12)) else none)))) else (xb (f_X5_unexpected h) fun v15 h16 => (if v15 = 0 ∨ v15 = 1 then (some (v15, h16)) else none)))
theorem t_X5_isNewName {N : Nat} {ρ : Nat} {δ : Nat} {x1 : Int32} {h : xm_H} {w : Int32 × xm_H}  (hS : xS ρ δ h) (hf : f_X5_isNewName N x1 h = some w) : xm_Rn xX 6 47 [.ref 161, .int x1] h (xji w.1) w.2 ∧ xS ρ δ w.2 := by
  refine xt_mk (φ := fun h => xS ρ δ h) (M := xM_X5_isNewName) (ls := [some (.ref 161), some (.int x1)]) rfl (Nat.le_of_ble_eq_true rfl) rfl (fun Q hQ => ?_)
  unfold f_X5_isNewName at hf
  refine xw_G (pc' := 1) (st' := [.ref 161]) rfl rfl trivial ?_
  refine xw_gr rfl (xkf (xs_k hS rfl rfl : xm_k h 161 = (6, 0))) (xs_r hS rfl) ?_
  refine xw_G (pc' := 7) (st' := [.int (xm_i h 162 4)]) rfl rfl (xkf (xs_k hS rfl rfl : xm_k h 162 = (10, 0))) ?_
  refine xw_G (pc' := 8) (st' := [.int (1 : Int32), .int (xm_i h 162 4)]) rfl rfl trivial ?_
  refine xj_ic_ne rfl hf (fun hc1 hf => ?_) (fun hc1 hf => ?_)
  · refine xw_G (pc' := 12) (st' := [.ref 161]) rfl rfl trivial ?_
    refine xw_gr rfl (xkf (xs_k hS rfl rfl : xm_k h 161 = (6, 0))) (xs_r hS rfl) ?_
    refine xw_G (pc' := 17) (st' := [.ref 17, .ref 162]) rfl rfl trivial ?_
    refine xb_e hf (fun v2 h3 e4 hf => ?_)
    refine xw_V (v := some (.int v2)) rfl rfl (xkf (xs_k hS rfl rfl : xm_k h 162 = (10, 0))) (Nat.le_of_ble_eq_true rfl) (Nat.le_of_ble_eq_true rfl) (xm_Rn_le (Nat.le_of_ble_eq_true rfl) (t_X9_spells  hS e4).1) ?_
    have hS := (t_X9_spells  hS e4).2
    show xm_W _ _ _ 20 _ [.int v2] _
    refine xj_if_eq rfl hf (fun hc5 hf => ?_) (fun hc5 hf => ?_)
    · refine xw_G (pc' := 29) (st' := [.int x1]) rfl rfl trivial ?_
      refine xw_G (pc' := 30) (st' := [.int (-1 : Int32), .int x1]) rfl rfl trivial ?_
      refine xj_ic_eq rfl hf (fun hc6 hf => ?_) (fun hc6 hf => ?_)
      · refine xw_G (pc' := 42) (st' := [.int (1 : Int32)]) rfl rfl trivial ?_
        refine xw_G (pc' := 46) (st' := [.int (1 : Int32)]) rfl rfl trivial ?_
        exact xr_i (inj := xji) rfl rfl rfl rfl hf hQ hS
      · refine xw_G (pc' := 34) (st' := [.ref 161]) rfl rfl trivial ?_
        refine xw_G (pc' := 35) (st' := [.int (4 : Int32), .ref 161]) rfl rfl trivial ?_
        refine xb_e hf (fun v7 h8 e9 hf => ?_)
        refine xw_V (v := some (.int v7)) rfl rfl (xkf (xs_k hS rfl rfl : xm_k h3 161 = (6, 0))) (Nat.le_of_ble_eq_true rfl) (Nat.le_of_ble_eq_true rfl) (xm_Rn_le (Nat.le_of_ble_eq_true rfl) (t_X5_fail  hS e9).1) ?_
        have hS := (t_X5_fail  hS e9).2
        show xm_W _ _ _ 38 _ [.int v7] _
        refine xj_if_eq rfl hf (fun hc10 hf => ?_) (fun hc10 hf => ?_)
        · refine xw_G (pc' := 46) (st' := [.int (0 : Int32)]) rfl rfl trivial ?_
          exact xr_i (inj := xji) rfl rfl rfl rfl hf hQ hS
        · refine xw_G (pc' := 42) (st' := [.int (1 : Int32)]) rfl rfl trivial ?_
          refine xw_G (pc' := 46) (st' := [.int (1 : Int32)]) rfl rfl trivial ?_
          exact xr_i (inj := xji) rfl rfl rfl rfl hf hQ hS
    · refine xw_G (pc' := 24) (st' := [.ref 161]) rfl rfl trivial ?_
      refine xb_e hf (fun v11 h12 e13 hf => ?_)
      refine xw_V (v := some (.int v11)) rfl rfl (xkf (xs_k hS rfl rfl : xm_k h3 161 = (6, 0))) (Nat.le_of_ble_eq_true rfl) (Nat.le_of_ble_eq_true rfl) (xm_Rn_le (Nat.le_of_ble_eq_true rfl) (t_X5_unexpected  hS e13).1) ?_
      have hS := (t_X5_unexpected  hS e13).2
      show xm_W _ _ _ 27 _ [.int v11] _
      refine xg_e hf (fun hg14 hf => ?_)
      exact xr_i (inj := xji) rfl rfl (xnar_z hg14).1 rfl hf hQ hS
  · refine xw_G (pc' := 24) (st' := [.ref 161]) rfl rfl trivial ?_
    refine xb_e hf (fun v15 h16 e17 hf => ?_)
    refine xw_V (v := some (.int v15)) rfl rfl (xkf (xs_k hS rfl rfl : xm_k h 161 = (6, 0))) (Nat.le_of_ble_eq_true rfl) (Nat.le_of_ble_eq_true rfl) (xm_Rn_le (Nat.le_of_ble_eq_true rfl) (t_X5_unexpected  hS e17).1) ?_
    have hS := (t_X5_unexpected  hS e17).2
    show xm_W _ _ _ 27 _ [.int v15] _
    refine xg_e hf (fun hg18 hf => ?_)
    exact xr_i (inj := xji) rfl rfl (xnar_z hg18).1 rfl hf hQ hS
def f_J2_compress_fe38e_3B (N : Nat) (c0 : Nat) (c2 : Nat) (c4 : Int32) (rec : Int32 → Int32 → Int32 → xm_H → Option (Int32 × xm_H)) (c1 : Int32) (c3 : Int32) (c5 : Int32) (h : xm_H) : Option (Int32 × xm_H) := (if c5 < c4 then (if (xm_k h c0).1 = 103 then (if xin c1 (xm_k h c0).2 then (if (255 : Int32) < (xm_i h c0 (Int32.toNatClampNeg c1)) then (some (c5, h)) else (if (xm_k h c2).1 = 102 then (if xin c3 (xm_k h c2).2 then (if 160 ≤ c2 then (xl (xm_si h c2 (Int32.toNatClampNeg c3) (vp_nar .byte ((Int32.toInt8 (xm_i h c0 (Int32.toNatClampNeg c1))).toInt32))) fun h8 => (rec (c1 + (1 : Int32)) (c3 + (1 : Int32)) (c5 + (1 : Int32)) h8)) else none) else none) else none)) else none) else none) else (some (c4, h)))
def f_J2_compress_fe38e_3 (N : Nat) (c0 : Nat) (c2 : Nat) (c4 : Int32) : Nat → Int32 → Int32 → Int32 → xm_H → Option (Int32 × xm_H)
  | 0 => fun _ _ _ _ => none
  | n + 1 => fun c1 c3 c5 h => f_J2_compress_fe38e_3B N c0 c2 c4 (f_J2_compress_fe38e_3 N c0 c2 c4 n) c1 c3 c5 h
def f_J2_compress_fe38e (N : Nat) (x0 : Nat) (x1 : Int32) (x2 : Nat) (x3 : Int32) (x4 : Int32) (h : xm_H) : Option (Int32 × xm_H) := (f_J2_compress_fe38e_3 N x0 x2 x4 N x1 x3 (0 : Int32) h)
theorem tl_J2_compress_fe38e_3 {ρ : Nat} {δ : Nat} {N : Nat} {c0 : Nat} {c2 : Nat} {c4 : Int32} {Q : xm_O → xm_H → Prop} {w : Int32 × xm_H}  (hQ : xS ρ δ w.2 → Q (xji w.1) w.2)  : ∀ (n : Nat) (c1 : Int32) (c3 : Int32) (c5 : Int32) (h : xm_H), xS ρ δ h → f_J2_compress_fe38e_3 N c0 c2 c4 n c1 c3 c5 h = some w → xm_W (xm_Rn xX 0) xM_J2_compress_fe38e Q 3 [some (.ref c0), some (.int c1), some (.ref c2), some (.int c3), some (.int c4), some (.int c5), none] [] h := by
  intro n
  induction n with
  | zero =>
    intro c1 c3 c5 h hS hf
    exact (xn_e hf).elim
  | succ n ih =>
    intro c1 c3 c5 h hS hf
    replace hf : f_J2_compress_fe38e_3B N c0 c2 c4 (f_J2_compress_fe38e_3 N c0 c2 c4 n) c1 c3 c5 h = some w := hf
    unfold f_J2_compress_fe38e_3B at hf
    refine xw_K (pc' := 5) (ls' := [some (.ref c0), some (.int c1), some (.ref c2), some (.int c3), some (.int c4), some (.int c5), none]) (st' := [.int c5]) rfl rfl trivial ?_
    refine xw_G (pc' := 7) (st' := [.int c4, .int c5]) rfl rfl trivial ?_
    refine xj_ic_ge rfl hf (fun hc1 hf => ?_) (fun hc1 hf => ?_)
    · refine xw_G (pc' := 11) (st' := [.ref c0]) rfl rfl trivial ?_
      refine xw_G (pc' := 12) (st' := [.int c1, .ref c0]) rfl rfl trivial ?_
      refine xg_e hf (fun hg2 hf => ?_)
      refine xg_e hf (fun hg3 hf => ?_)
      refine xa_ld (t := 103) (τ := 0) (v := .int (xm_i h c0 (Int32.toNatClampNeg c1))) rfl rfl hg2 rfl hg3 rfl ?_
      refine xw_G (pc' := 15) (ls' := [some (.ref c0), some (.int c1), some (.ref c2), some (.int c3), some (.int c4), some (.int c5), some (.int (xm_i h c0 (Int32.toNatClampNeg c1)))]) (st' := []) rfl rfl (Nat.le_of_ble_eq_true rfl) ?_
      refine xw_G (pc' := 17) (st' := [.int (xm_i h c0 (Int32.toNatClampNeg c1))]) rfl rfl trivial ?_
      refine xw_G (pc' := 20) (st' := [.int (255 : Int32), .int (xm_i h c0 (Int32.toNatClampNeg c1))]) rfl rfl trivial ?_
      refine xj_ic_le rfl hf (fun hc4 hf => ?_) (fun hc4 hf => ?_)
      · refine xw_G (pc' := 25) (st' := [.int c5]) rfl rfl trivial ?_
        exact xr_i (inj := xji) rfl rfl rfl rfl hf hQ hS
      · refine xw_G (pc' := 27) (st' := [.ref c2]) rfl rfl trivial ?_
        refine xw_G (pc' := 28) (st' := [.int c3, .ref c2]) rfl rfl trivial ?_
        refine xw_G (pc' := 30) (st' := [.int (xm_i h c0 (Int32.toNatClampNeg c1)), .int c3, .ref c2]) rfl rfl trivial ?_
        refine xw_G (pc' := 31) (st' := [.int ((Int32.toInt8 (xm_i h c0 (Int32.toNatClampNeg c1))).toInt32), .int c3, .ref c2]) rfl rfl trivial ?_
        refine xg_e hf (fun hg5 hf => ?_)
        refine xg_e hf (fun hg6 hf => ?_)
        refine xg_e hf (fun hg7 hf => ?_)
        refine xa_b rfl hg5 rfl hg6 hg7 hf (fun h8 e9 hf => ?_)
        have hS := xS_si hS e9
        refine xw_G (pc' := 35) (ls' := [some (.ref c0), some (.int (c1 + (1 : Int32))), some (.ref c2), some (.int c3), some (.int c4), some (.int c5), some (.int (xm_i h c0 (Int32.toNatClampNeg c1)))]) (st' := []) rfl rfl (Nat.le_of_ble_eq_true rfl) ?_
        refine xw_G (pc' := 38) (ls' := [some (.ref c0), some (.int (c1 + (1 : Int32))), some (.ref c2), some (.int (c3 + (1 : Int32))), some (.int c4), some (.int c5), some (.int (xm_i h c0 (Int32.toNatClampNeg c1)))]) (st' := []) rfl rfl (Nat.le_of_ble_eq_true rfl) ?_
        refine xw_G (pc' := 41) (ls' := [some (.ref c0), some (.int (c1 + (1 : Int32))), some (.ref c2), some (.int (c3 + (1 : Int32))), some (.int c4), some (.int (c5 + (1 : Int32))), some (.int (xm_i h c0 (Int32.toNatClampNeg c1)))]) (st' := []) rfl rfl (Nat.le_of_ble_eq_true rfl) ?_
        refine xw_G (pc' := 3) (st' := []) rfl rfl trivial ?_
        refine xw_M rfl rfl ?_
        exact ih _ _ _ _ hS hf
    · refine xw_G (pc' := 46) (st' := [.int c4]) rfl rfl trivial ?_
      exact xr_i (inj := xji) rfl rfl rfl rfl hf hQ hS
theorem t_J2_compress_fe38e {N : Nat} {ρ : Nat} {δ : Nat} {x0 : Nat} {x1 : Int32} {x2 : Nat} {x3 : Int32} {x4 : Int32} {h : xm_H} {w : Int32 × xm_H}  (hS : xS ρ δ h) (hf : f_J2_compress_fe38e N x0 x1 x2 x3 x4 h = some w) : xm_Rn xX 1 304 [.ref x0, .int x1, .ref x2, .int x3, .int x4] h (xji w.1) w.2 ∧ xS ρ δ w.2 := by
  refine xt_mk (φ := fun h => xS ρ δ h) (M := xM_J2_compress_fe38e) (ls := [some (.ref x0), some (.int x1), some (.ref x2), some (.int x3), some (.int x4), none, none]) rfl (Nat.le_of_ble_eq_true rfl) rfl (fun Q hQ => ?_)
  unfold f_J2_compress_fe38e at hf
  refine xw_G (pc' := 1) (st' := [.int (0 : Int32)]) rfl rfl trivial ?_
  refine xw_G (pc' := 3) (ls' := [some (.ref x0), some (.int x1), some (.ref x2), some (.int x3), some (.int x4), some (.int (0 : Int32)), none]) (st' := []) rfl rfl (Nat.le_of_ble_eq_true rfl) ?_
  refine xw_M rfl rfl ?_
  refine tl_J2_compress_fe38e_3  hQ  _ _ _ _ _ hS hf
def f_J2_compress_dfd3c (N : Nat) (x0 : Nat) (x1 : Int32) (x2 : Int32) (h : xm_H) : Option (Nat × xm_H) := (if ¬ x2 < 0 ∧ Int32.toNatClampNeg x2 ≤ 60000000 then (xl (xm_new h (102, Int32.toNatClampNeg x2)) fun h1 => (xb (f_J2_compress_fe38e N x0 x1 (xm_n h) (0 : Int32) x2 h1) fun v3 h4 => (if v3 = x2 then (some ((xm_n h), h4)) else none))) else none)
theorem t_J2_compress_dfd3c {N : Nat} {ρ : Nat} {δ : Nat} {x0 : Nat} {x1 : Int32} {x2 : Int32} {h : xm_H} {w : Nat × xm_H}  (hS : xS ρ δ h) (hf : f_J2_compress_dfd3c N x0 x1 x2 h = some w) : xm_Rn xX 2 302 [.ref x0, .int x1, .int x2] h (xjr w.1) w.2 ∧ xS ρ δ w.2 := by
  refine xt_mk (φ := fun h => xS ρ δ h) (M := xM_J2_compress_dfd3c) (ls := [some (.ref x0), some (.int x1), some (.int x2), none, none, none]) rfl (Nat.le_of_ble_eq_true rfl) rfl (fun Q hQ => ?_)
  unfold f_J2_compress_dfd3c at hf
  refine xw_G (pc' := 1) (st' := [.int x2]) rfl rfl trivial ?_
  refine xg_e hf (fun hg7 hf => ?_)
  refine xa_na rfl hg7 hf (fun h1 e2 hf => ?_)
  have hS := xS_new hS e2
  refine xw_G (pc' := 4) (ls' := [some (.ref x0), some (.int x1), some (.int x2), some (.ref (xm_n h)), none, none]) (st' := []) rfl rfl (Nat.le_of_ble_eq_true rfl) ?_
  refine xw_G (pc' := 5) (st' := [.ref x0]) rfl rfl trivial ?_
  refine xw_G (pc' := 6) (st' := [.int x1, .ref x0]) rfl rfl trivial ?_
  refine xw_G (pc' := 7) (st' := [.ref (xm_n h), .int x1, .ref x0]) rfl rfl trivial ?_
  refine xw_G (pc' := 8) (st' := [.int (0 : Int32), .ref (xm_n h), .int x1, .ref x0]) rfl rfl trivial ?_
  refine xw_G (pc' := 9) (st' := [.int x2, .int (0 : Int32), .ref (xm_n h), .int x1, .ref x0]) rfl rfl trivial ?_
  refine xb_e hf (fun v3 h4 e5 hf => ?_)
  refine xw_S (v := some (.int v3)) rfl (Nat.le_of_ble_eq_true rfl) (Nat.le_of_ble_eq_true rfl) (xm_Rn_le (Nat.le_of_ble_eq_true rfl) (t_J2_compress_fe38e  hS e5).1) ?_
  have hS := (t_J2_compress_fe38e  hS e5).2
  show xm_W _ _ _ 12 _ [.int v3] _
  refine xw_G (pc' := 14) (ls' := [some (.ref x0), some (.int x1), some (.int x2), some (.ref (xm_n h)), some (.int v3), none]) (st' := []) rfl rfl (Nat.le_of_ble_eq_true rfl) ?_
  refine xw_G (pc' := 16) (st' := [.int v3]) rfl rfl trivial ?_
  refine xw_G (pc' := 17) (st' := [.int x2, .int v3]) rfl rfl trivial ?_
  refine xj_ic_eq rfl hf (fun hc6 hf => ?_) (fun hc6 hf => ?_)
  · refine xw_G (pc' := 58) (st' := [.ref (xm_n h)]) rfl rfl trivial ?_
    exact xr_r (inj := xjr) rfl rfl hf hQ hS
  · refine xw_G (pc' := 21) (st' := [.ref x0]) rfl rfl trivial ?_
    refine xw_G (pc' := 22) (st' := [.int x1, .ref x0]) rfl rfl trivial ?_
    refine xw_G (pc' := 23) (st' := [.int x2, .int x1, .ref x0]) rfl rfl trivial ?_
    exact (xn_e hf).elim
def f_J2_coderFromArrayLen_85cad (x0 : Nat) (x1 : Int32) (h : xm_H) : Option (Int32 × xm_H) := (if 100 ≤ (xm_k h x0).1 ∧ (xm_k h x0).1 < 109 then (if vp_nar .byte ((Int32.toInt8 (((Int32.toUInt32 (x1 - (Int32.ofNat (xm_k h x0).2))) >>> ((Int32.toUInt32 (31 : Int32)) &&& Int32.toUInt32 31)).toInt32)).toInt32) = ((Int32.toInt8 (((Int32.toUInt32 (x1 - (Int32.ofNat (xm_k h x0).2))) >>> ((Int32.toUInt32 (31 : Int32)) &&& Int32.toUInt32 31)).toInt32)).toInt32) then (some ((Int32.toInt8 (((Int32.toUInt32 (x1 - (Int32.ofNat (xm_k h x0).2))) >>> ((Int32.toUInt32 (31 : Int32)) &&& Int32.toUInt32 31)).toInt32)).toInt32, h)) else none) else none)
theorem t_J2_coderFromArrayLen_85cad {ρ : Nat} {δ : Nat} {x0 : Nat} {x1 : Int32} {h : xm_H} {w : Int32 × xm_H}  (hS : xS ρ δ h) (hf : f_J2_coderFromArrayLen_85cad x0 x1 h = some w) : xm_Rn xX 1 301 [.ref x0, .int x1] h (xji w.1) w.2 ∧ xS ρ δ w.2 := by
  refine xt_mk (φ := fun h => xS ρ δ h) (M := xM_J2_coderFromArrayLen_85cad) (ls := [some (.ref x0), some (.int x1)]) rfl (Nat.le_of_ble_eq_true rfl) rfl (fun Q hQ => ?_)
  unfold f_J2_coderFromArrayLen_85cad at hf
  refine xw_G (pc' := 1) (st' := [.int x1]) rfl rfl trivial ?_
  refine xw_G (pc' := 2) (st' := [.ref x0, .int x1]) rfl rfl trivial ?_
  refine xg_e hf (fun hg1 hf => ?_)
  refine xa_len rfl hg1 rfl ?_
  refine xw_G (pc' := 4) (st' := [.int (x1 - (Int32.ofNat (xm_k h x0).2))]) rfl rfl trivial ?_
  refine xw_G (pc' := 6) (st' := [.int (31 : Int32), .int (x1 - (Int32.ofNat (xm_k h x0).2))]) rfl rfl trivial ?_
  refine xw_G (pc' := 7) (st' := [.int (((Int32.toUInt32 (x1 - (Int32.ofNat (xm_k h x0).2))) >>> ((Int32.toUInt32 (31 : Int32)) &&& Int32.toUInt32 31)).toInt32)]) rfl rfl trivial ?_
  refine xw_G (pc' := 8) (st' := [.int ((Int32.toInt8 (((Int32.toUInt32 (x1 - (Int32.ofNat (xm_k h x0).2))) >>> ((Int32.toUInt32 (31 : Int32)) &&& Int32.toUInt32 31)).toInt32)).toInt32)]) rfl rfl trivial ?_
  refine xg_e hf (fun hg2 hf => ?_)
  exact xr_i (inj := xji) rfl rfl (xnar_b hg2) rfl hf hQ hS
def f_J0_init_bb550 (N : Nat) (x0 : Nat) (x1 : Nat) (x2 : Int32) (x3 : Int32) (h : xm_H) : Option (Unit × xm_H) := (if x3 = 0 then none else (xb (f_J2_compress_dfd3c N x1 x2 x3 h) fun v2 h3 => (xb (f_J2_coderFromArrayLen_85cad v2 x3 h3) fun v5 h6 => (if (xm_k h6 x0).1 = 12 then (if 160 ≤ x0 then (if v5 = 0 then (xl (xm_si h6 x0 1 v5) fun h10 => (if (xm_k h10 x0).1 = 12 then (if 160 ≤ x0 then (if 318 ≤ x0 then (xl (xm_sr h10 x0 0 (some v2)) fun h15 => (some ((), h15))) else none) else none) else none)) else none) else none) else none))))
theorem t_J0_init_bb550 {N : Nat} {ρ : Nat} {δ : Nat} {x0 : Nat} {x1 : Nat} {x2 : Int32} {x3 : Int32} {h : xm_H} {w : Unit × xm_H}  (hS : xS ρ δ h) (hf : f_J0_init_bb550 N x0 x1 x2 x3 h = some w) : xm_Rn xX 3 275 [.ref x0, .ref x1, .int x2, .int x3, .null] h (xjv w.1) w.2 ∧ xS ρ δ w.2 := by
  refine xt_mk (φ := fun h => xS ρ δ h) (M := xM_J0_init_bb550) (ls := [some (.ref x0), some (.ref x1), some (.int x2), some (.int x3), some (.null), none]) rfl (Nat.le_of_ble_eq_true rfl) rfl (fun Q hQ => ?_)
  unfold f_J0_init_bb550 at hf
  refine xw_G (pc' := 1) (st' := [.ref x0]) rfl rfl trivial ?_
  refine xw_I8 rfl (Nat.le_of_ble_eq_true rfl) ?_
  refine xw_G (pc' := 5) (st' := [.int x3]) rfl rfl trivial ?_
  refine xj_if_ne rfl hf (fun hc1 hf => ?_) (fun hc1 hf => ?_)
  · refine xw_G (pc' := 9) (st' := [.ref x0]) rfl rfl trivial ?_
    exact (xn_e hf).elim
  · refine xw_G (pc' := 30) (st' := [.int (1 : Int32)]) rfl rfl trivial ?_
    refine xw_G (pc' := 33) (st' := []) rfl rfl trivial ?_
    refine xw_G (pc' := 34) (st' := [.ref x1]) rfl rfl trivial ?_
    refine xw_G (pc' := 35) (st' := [.int x2, .ref x1]) rfl rfl trivial ?_
    refine xw_G (pc' := 36) (st' := [.int x3, .int x2, .ref x1]) rfl rfl trivial ?_
    refine xb_e hf (fun v2 h3 e4 hf => ?_)
    refine xw_S (v := some (.ref v2)) rfl (Nat.le_of_ble_eq_true rfl) (Nat.le_of_ble_eq_true rfl) (xm_Rn_le (Nat.le_of_ble_eq_true rfl) (t_J2_compress_dfd3c  hS e4).1) ?_
    have hS := (t_J2_compress_dfd3c  hS e4).2
    show xm_W _ _ _ 39 _ [.ref v2] _
    refine xw_G (pc' := 41) (ls' := [some (.ref x0), some (.ref x1), some (.int x2), some (.int x3), some (.null), some (.ref v2)]) (st' := []) rfl rfl (Nat.le_of_ble_eq_true rfl) ?_
    refine xw_G (pc' := 42) (st' := [.ref x0]) rfl rfl trivial ?_
    refine xw_G (pc' := 44) (st' := [.ref v2, .ref x0]) rfl rfl trivial ?_
    refine xw_G (pc' := 45) (st' := [.int x3, .ref v2, .ref x0]) rfl rfl trivial ?_
    refine xb_e hf (fun v5 h6 e7 hf => ?_)
    refine xw_S (v := some (.int v5)) rfl (Nat.le_of_ble_eq_true rfl) (Nat.le_of_ble_eq_true rfl) (xm_Rn_le (Nat.le_of_ble_eq_true rfl) (t_J2_coderFromArrayLen_85cad  hS e7).1) ?_
    have hS := (t_J2_coderFromArrayLen_85cad  hS e7).2
    show xm_W _ _ _ 48 _ [.int v5, .ref x0] _
    refine xg_e hf (fun hg8 hf => ?_)
    refine xg_e hf (fun hg9 hf => ?_)
    refine xg_e hf (fun hg12 hf => ?_)
    refine xp_b rfl hg8 hg9 (by rw [hg12]; exact ⟨rfl, rfl⟩) hf (fun h10 e11 hf => ?_)
    have hS := xS_si hS e11
    refine xw_G (pc' := 52) (st' := [.ref x0]) rfl rfl trivial ?_
    refine xw_G (pc' := 54) (st' := [.ref v2, .ref x0]) rfl rfl trivial ?_
    refine xg_e hf (fun hg13 hf => ?_)
    refine xg_e hf (fun hg14 hf => ?_)
    refine xg_e hf (fun hg17 hf => ?_)
    refine xp_r rfl hg13 hg14 hf (fun h15 e16 hf => ?_)
    have hS := xS_dyn hS e16 (Or.inr hg17)
    exact xr_v (inj := xjv) rfl rfl hf hQ hS
def f_J0_init_905df (N : Nat) (x0 : Nat) (x1 : Nat) (h : xm_H) : Option (Unit × xm_H) := (if 100 ≤ (xm_k h x1).1 ∧ (xm_k h x1).1 < 109 then (if (xm_k h x0).1 = 12 then (xb (f_J0_init_bb550 N x0 x1 (0 : Int32) (Int32.ofNat (xm_k h x1).2) h) fun v2 h3 => (some ((), h3))) else none) else none)
theorem t_J0_init_905df {N : Nat} {ρ : Nat} {δ : Nat} {x0 : Nat} {x1 : Nat} {h : xm_H} {w : Unit × xm_H}  (hS : xS ρ δ h) (hf : f_J0_init_905df N x0 x1 h = some w) : xm_Rn xX 4 270 [.ref x0, .ref x1] h (xjv w.1) w.2 ∧ xS ρ δ w.2 := by
  refine xt_mk (φ := fun h => xS ρ δ h) (M := xM_J0_init_905df) (ls := [some (.ref x0), some (.ref x1)]) rfl (Nat.le_of_ble_eq_true rfl) rfl (fun Q hQ => ?_)
  unfold f_J0_init_905df at hf
  refine xw_G (pc' := 1) (st' := [.ref x0]) rfl rfl trivial ?_
  refine xw_G (pc' := 2) (st' := [.ref x1, .ref x0]) rfl rfl trivial ?_
  refine xw_G (pc' := 3) (st' := [.int (0 : Int32), .ref x1, .ref x0]) rfl rfl trivial ?_
  refine xw_G (pc' := 4) (st' := [.ref x1, .int (0 : Int32), .ref x1, .ref x0]) rfl rfl trivial ?_
  refine xg_e hf (fun hg1 hf => ?_)
  refine xa_len rfl hg1 rfl ?_
  refine xw_G (pc' := 6) (st' := [.null, .int (Int32.ofNat (xm_k h x1).2), .int (0 : Int32), .ref x1, .ref x0]) rfl rfl trivial ?_
  refine xg_e hf (fun hg5 hf => ?_)
  refine xb_e hf (fun v2 h3 e4 hf => ?_)
  refine xw_I2 (v := none) rfl rfl hg5 (Nat.le_of_ble_eq_true rfl) (Nat.le_of_ble_eq_true rfl) (xm_Rn_le (Nat.le_of_ble_eq_true rfl) (t_J0_init_bb550  hS e4).1) ?_
  have hS := (t_J0_init_bb550  hS e4).2
  show xm_W _ _ _ 9 _ [] _
  exact xr_v (inj := xjv) rfl rfl hf hQ hS
def f_X9_letters_29B (N : Nat) (c1 : Nat) (k55 : xm_H → Option (Nat × xm_H)) (rec : Int32 → xm_H → Option (Nat × xm_H)) (c2 : Int32) (h : xm_H) : Option (Nat × xm_H) := (if 100 ≤ (xm_k h c1).1 ∧ (xm_k h c1).1 < 109 then (if c2 < (Int32.ofNat (xm_k h c1).2) then (if xin ((xm_i h 162 5) + c2) 600 then (if (xm_k h c1).1 = 103 then (if xin c2 (xm_k h c1).2 then (if 160 ≤ c1 then (xl (xm_si h c1 (Int32.toNatClampNeg c2) (vp_nar .char (xm_i h 163 (Int32.toNatClampNeg ((xm_i h 162 5) + c2))))) fun h7 => (rec (c2 + (1 : Int32)) h7)) else none) else none) else none) else none) else (k55  h)) else none)
def f_X9_letters_29 (N : Nat) (c1 : Nat) (k55 : xm_H → Option (Nat × xm_H)) : Nat → Int32 → xm_H → Option (Nat × xm_H)
  | 0 => fun _ _ => none
  | n + 1 => fun c2 h => f_X9_letters_29B N c1 k55 (f_X9_letters_29 N c1 k55 n) c2 h
def f_X9_letters (N : Nat) (h : xm_H) : Option (Nat × xm_H) := (if (xm_i h 162 5) < (xm_i h 162 3) then (if ¬ ((xm_i h 162 3) - (xm_i h 162 5)) < 0 ∧ Int32.toNatClampNeg ((xm_i h 162 3) - (xm_i h 162 5)) ≤ 60000000 then (xl (xm_new h (103, Int32.toNatClampNeg ((xm_i h 162 3) - (xm_i h 162 5)))) fun h2 => (f_X9_letters_29 N (xm_n h) (fun  (h4 : xm_H) => (xl (xm_new h4 (12, 0)) fun h5 => (xb (f_J0_init_905df N (xm_n h4) (xm_n h) h5) fun v7 h8 => (some ((xm_n h4), h8))))) N (0 : Int32) h2)) else none) else (xl (xm_new h (103, 0)) fun h11 => (f_X9_letters_29 N (xm_n h) (fun  (h13 : xm_H) => (xl (xm_new h13 (12, 0)) fun h14 => (xb (f_J0_init_905df N (xm_n h13) (xm_n h) h14) fun v16 h17 => (some ((xm_n h13), h17))))) N (0 : Int32) h11)))
theorem tl_X9_letters_29 {ρ : Nat} {δ : Nat} {N : Nat} {c1 : Nat} {k55 : xm_H → Option (Nat × xm_H)} {Q : xm_O → xm_H → Prop} {w : Nat × xm_H}  (hQ : xS ρ δ w.2 → Q (xjr w.1) w.2) (hk55 : ∀  (h : xm_H), xS ρ δ h → k55  h = some w → xm_W (xm_Rn xX 4) xM_X9_letters Q 55 [none, some (.ref c1), none] [] h) : ∀ (n : Nat) (c2 : Int32) (h : xm_H), xS ρ δ h → f_X9_letters_29 N c1 k55 n c2 h = some w → xm_W (xm_Rn xX 4) xM_X9_letters Q 29 [some (.ref 162), some (.ref c1), some (.int c2)] [] h := by
  intro n
  induction n with
  | zero =>
    intro c2 h hS hf
    exact (xn_e hf).elim
  | succ n ih =>
    intro c2 h hS hf
    replace hf : f_X9_letters_29B N c1 k55 (f_X9_letters_29 N c1 k55 n) c2 h = some w := hf
    unfold f_X9_letters_29B at hf
    refine xw_K (pc' := 30) (ls' := [some (.ref 162), some (.ref c1), some (.int c2)]) (st' := [.int c2]) rfl rfl trivial ?_
    refine xw_G (pc' := 31) (st' := [.ref c1, .int c2]) rfl rfl trivial ?_
    refine xg_e hf (fun hg1 hf => ?_)
    refine xa_len rfl hg1 rfl ?_
    refine xj_ic_ge rfl hf (fun hc2 hf => ?_) (fun hc2 hf => ?_)
    · refine xw_G (pc' := 36) (st' := [.ref c1]) rfl rfl trivial ?_
      refine xw_G (pc' := 37) (st' := [.int c2, .ref c1]) rfl rfl trivial ?_
      refine xw_G (pc' := 38) (st' := [.ref 162, .int c2, .ref c1]) rfl rfl trivial ?_
      refine xw_gr rfl (xkf (xs_k hS rfl rfl : xm_k h 162 = (10, 0))) (xs_r hS rfl) ?_
      refine xw_G (pc' := 42) (st' := [.ref 162, .ref 163, .int c2, .ref c1]) rfl rfl trivial ?_
      refine xw_G (pc' := 45) (st' := [.int (xm_i h 162 5), .ref 163, .int c2, .ref c1]) rfl rfl (xkf (xs_k hS rfl rfl : xm_k h 162 = (10, 0))) ?_
      refine xw_G (pc' := 46) (st' := [.int c2, .int (xm_i h 162 5), .ref 163, .int c2, .ref c1]) rfl rfl trivial ?_
      refine xw_G (pc' := 47) (st' := [.int ((xm_i h 162 5) + c2), .ref 163, .int c2, .ref c1]) rfl rfl trivial ?_
      refine xg_e hf (fun hg3 hf => ?_)
      refine xa_ld (t := 103) (τ := 0) (v := .int (xm_i h 163 (Int32.toNatClampNeg ((xm_i h 162 5) + c2)))) rfl rfl (xkf (xs_k hS rfl rfl : xm_k h 163 = (103, 600))) (xkn (xs_k hS rfl rfl : xm_k h 163 = (103, 600))) hg3 rfl ?_
      refine xg_e hf (fun hg4 hf => ?_)
      refine xg_e hf (fun hg5 hf => ?_)
      refine xg_e hf (fun hg6 hf => ?_)
      refine xa_c rfl hg4 rfl hg5 hg6 hf (fun h7 e8 hf => ?_)
      have hS := xS_si hS e8
      refine xw_G (pc' := 52) (ls' := [some (.ref 162), some (.ref c1), some (.int (c2 + (1 : Int32)))]) (st' := []) rfl rfl (Nat.le_of_ble_eq_true rfl) ?_
      refine xw_G (pc' := 29) (st' := []) rfl rfl trivial ?_
      refine xw_M rfl rfl ?_
      exact ih _ _ hS hf
    · refine xw_M rfl rfl ?_
      exact hk55  _ hS hf
theorem t_X9_letters {N : Nat} {ρ : Nat} {δ : Nat} {h : xm_H} {w : Nat × xm_H}  (hS : xS ρ δ h) (hf : f_X9_letters N h = some w) : xm_Rn xX 5 71 [.ref 162] h (xjr w.1) w.2 ∧ xS ρ δ w.2 := by
  refine xt_mk (φ := fun h => xS ρ δ h) (M := xM_X9_letters) (ls := [some (.ref 162), none, none]) rfl (Nat.le_of_ble_eq_true rfl) rfl (fun Q hQ => ?_)
  unfold f_X9_letters at hf
  refine xw_G (pc' := 1) (st' := [.ref 162]) rfl rfl trivial ?_
  refine xw_G (pc' := 4) (st' := [.int (xm_i h 162 3)]) rfl rfl (xkf (xs_k hS rfl rfl : xm_k h 162 = (10, 0))) ?_
  refine xw_G (pc' := 5) (st' := [.ref 162, .int (xm_i h 162 3)]) rfl rfl trivial ?_
  refine xw_G (pc' := 8) (st' := [.int (xm_i h 162 5), .int (xm_i h 162 3)]) rfl rfl (xkf (xs_k hS rfl rfl : xm_k h 162 = (10, 0))) ?_
  refine xj_ic_le rfl hf (fun hc1 hf => ?_) (fun hc1 hf => ?_)
  · refine xw_G (pc' := 12) (st' := [.ref 162]) rfl rfl trivial ?_
    refine xw_G (pc' := 15) (st' := [.int (xm_i h 162 3)]) rfl rfl (xkf (xs_k hS rfl rfl : xm_k h 162 = (10, 0))) ?_
    refine xw_G (pc' := 16) (st' := [.ref 162, .int (xm_i h 162 3)]) rfl rfl trivial ?_
    refine xw_G (pc' := 19) (st' := [.int (xm_i h 162 5), .int (xm_i h 162 3)]) rfl rfl (xkf (xs_k hS rfl rfl : xm_k h 162 = (10, 0))) ?_
    refine xw_G (pc' := 20) (st' := [.int ((xm_i h 162 3) - (xm_i h 162 5))]) rfl rfl trivial ?_
    refine xw_G (pc' := 24) (st' := [.int ((xm_i h 162 3) - (xm_i h 162 5))]) rfl rfl trivial ?_
    refine xg_e hf (fun hg10 hf => ?_)
    refine xa_na rfl hg10 hf (fun h2 e3 hf => ?_)
    have hS := xS_new hS e3
    refine xw_G (pc' := 27) (ls' := [some (.ref 162), some (.ref (xm_n h)), none]) (st' := []) rfl rfl (Nat.le_of_ble_eq_true rfl) ?_
    refine xw_G (pc' := 28) (st' := [.int (0 : Int32)]) rfl rfl trivial ?_
    refine xw_G (pc' := 29) (ls' := [some (.ref 162), some (.ref (xm_n h)), some (.int (0 : Int32))]) (st' := []) rfl rfl (Nat.le_of_ble_eq_true rfl) ?_
    refine xw_M rfl rfl ?_
    refine tl_X9_letters_29  hQ (fun  h4 hS hf => ?_) _ _ _ hS hf
    refine xa_nK rfl hf (fun h5 e6 hf => ?_)
    show xm_W _ _ _ 58 [none, some (.ref (xm_n h)), none] [.ref (xm_n h4)] _
    have hS := xS_new hS e6
    refine xw_G (pc' := 59) (st' := [.ref (xm_n h4), .ref (xm_n h4)]) rfl rfl rfl ?_
    refine xw_G (pc' := 60) (st' := [.ref (xm_n h), .ref (xm_n h4), .ref (xm_n h4)]) rfl rfl trivial ?_
    refine xb_e hf (fun v7 h8 e9 hf => ?_)
    refine xw_I2 (v := none) rfl rfl (xkf (xk_new e6)) (Nat.le_of_ble_eq_true rfl) (Nat.le_of_ble_eq_true rfl) (xm_Rn_le (Nat.le_of_ble_eq_true rfl) (t_J0_init_905df  hS e9).1) ?_
    have hS := (t_J0_init_905df  hS e9).2
    show xm_W _ _ _ 63 _ [.ref (xm_n h4)] _
    exact xr_r (inj := xjr) rfl rfl hf hQ hS
  · refine xw_G (pc' := 24) (st' := [.int (0 : Int32)]) rfl rfl trivial ?_
    refine xa_na rfl (by decide) hf (fun h11 e12 hf => ?_)
    have hS := xS_new hS e12
    refine xw_G (pc' := 27) (ls' := [some (.ref 162), some (.ref (xm_n h)), none]) (st' := []) rfl rfl (Nat.le_of_ble_eq_true rfl) ?_
    refine xw_G (pc' := 28) (st' := [.int (0 : Int32)]) rfl rfl trivial ?_
    refine xw_G (pc' := 29) (ls' := [some (.ref 162), some (.ref (xm_n h)), some (.int (0 : Int32))]) (st' := []) rfl rfl (Nat.le_of_ble_eq_true rfl) ?_
    refine xw_M rfl rfl ?_
    refine tl_X9_letters_29  hQ (fun  h13 hS hf => ?_) _ _ _ hS hf
    refine xa_nK rfl hf (fun h14 e15 hf => ?_)
    show xm_W _ _ _ 58 [none, some (.ref (xm_n h)), none] [.ref (xm_n h13)] _
    have hS := xS_new hS e15
    refine xw_G (pc' := 59) (st' := [.ref (xm_n h13), .ref (xm_n h13)]) rfl rfl rfl ?_
    refine xw_G (pc' := 60) (st' := [.ref (xm_n h), .ref (xm_n h13), .ref (xm_n h13)]) rfl rfl trivial ?_
    refine xb_e hf (fun v16 h17 e18 hf => ?_)
    refine xw_I2 (v := none) rfl rfl (xkf (xk_new e15)) (Nat.le_of_ble_eq_true rfl) (Nat.le_of_ble_eq_true rfl) (xm_Rn_le (Nat.le_of_ble_eq_true rfl) (t_J0_init_905df  hS e18).1) ?_
    have hS := (t_J0_init_905df  hS e18).2
    show xm_W _ _ _ 63 _ [.ref (xm_n h13)] _
    exact xr_r (inj := xjr) rfl rfl hf hQ hS
def f_X5_newTag (N : Nat) (δ : Nat) (h : xm_H) : Option (Int32 × xm_H) := (if (xm_i h δ 5) < (6 : Int32) then (xb (f_X9_advance N h) fun v2 h3 => (if xin (xm_i h3 δ 5) 6 then (xb (f_X5_findTag N δ h3) fun v6 h7 => (xb (f_X5_isNewName N v6 h7) fun v9 h10 => (if v9 = 0 then (some ((0 : Int32), h10)) else (xb (f_X9_letters N h10) fun v13 h14 => (xl (xm_sr h14 (δ + 3 + Int32.toNatClampNeg (xm_i h3 δ 5)) 0 (some v13)) fun h16 => (xb (f_X9_advance N h16) fun v18 h19 => (xb (f_X5_takeNumber N (0 : Int32) (999 : Int32) h19) fun v21 h22 => (if v21 = 0 then (some ((0 : Int32), h22)) else (xl (xm_si h22 (δ + 3 + Int32.toNatClampNeg (xm_i h3 δ 5)) 1 (xm_i h22 161 1)) fun h25 => (xl (xm_si h25 δ 5 ((xm_i h25 δ 5) + (1 : Int32))) fun h27 => (xb (f_X5_takeSemicolon N h27) fun v29 h30 => (if v29 = 0 ∨ v29 = 1 then (some (v29, h30)) else none)))))))))))) else none)) else (xb (f_X5_fail (5 : Int32) h) fun v33 h34 => (if v33 = 0 ∨ v33 = 1 then (some (v33, h34)) else none)))
theorem t_X5_newTag {N : Nat} {ρ : Nat} {δ : Nat} {h : xm_H} {w : Int32 × xm_H}  (hS : xS ρ δ h) (hf : f_X5_newTag N δ h = some w) : xm_Rn xX 7 42 [.ref 161] h (xji w.1) w.2 ∧ xS ρ δ w.2 := by
  refine xt_mk (φ := fun h => xS ρ δ h) (M := xM_X5_newTag) (ls := [some (.ref 161), none]) rfl (Nat.le_of_ble_eq_true rfl) rfl (fun Q hQ => ?_)
  unfold f_X5_newTag at hf
  refine xw_G (pc' := 1) (st' := [.ref 161]) rfl rfl trivial ?_
  refine xw_gr rfl (xkf (xs_k hS rfl rfl : xm_k h 161 = (6, 0))) (xs_del hS) ?_
  refine xw_G (pc' := 7) (st' := [.int (xm_i h δ 5)]) rfl rfl (xkf (xsR0 hS (xs_D hS))) ?_
  refine xw_G (pc' := 9) (st' := [.int (6 : Int32), .int (xm_i h δ 5)]) rfl rfl trivial ?_
  refine xj_ic_lt rfl hf (fun hc1 hf => ?_) (fun hc1 hf => ?_)
  · refine xw_G (pc' := 19) (st' := [.ref 161]) rfl rfl trivial ?_
    refine xw_gr rfl (xkf (xs_k hS rfl rfl : xm_k h 161 = (6, 0))) (xs_r hS rfl) ?_
    refine xb_e hf (fun v2 h3 e4 hf => ?_)
    refine xw_V (v := none) rfl rfl (xkf (xs_k hS rfl rfl : xm_k h 162 = (10, 0))) (Nat.le_of_ble_eq_true rfl) (Nat.le_of_ble_eq_true rfl) (xm_Rn_le (Nat.le_of_ble_eq_true rfl) (t_X9_advance  hS e4).1) ?_
    have hS := (t_X9_advance  hS e4).2
    show xm_W _ _ _ 25 _ [] _
    refine xw_G (pc' := 26) (st' := [.ref 161]) rfl rfl trivial ?_
    refine xw_gr rfl (xkf (xs_k hS rfl rfl : xm_k h3 161 = (6, 0))) (xs_del hS) ?_
    refine xw_gr rfl (xkf (xsR0 hS (xs_D hS))) (xsRr4 hS (xs_D hS)) ?_
    refine xw_G (pc' := 33) (st' := [.ref 161, .ref (δ + 2)]) rfl rfl trivial ?_
    refine xw_gr rfl (xkf (xs_k hS rfl rfl : xm_k h3 161 = (6, 0))) (xs_del hS) ?_
    refine xw_G (pc' := 39) (st' := [.int (xm_i h3 δ 5), .ref (δ + 2)]) rfl rfl (xkf (xsR0 hS (xs_D hS))) ?_
    refine xg_e hf (fun hg5 hf => ?_)
    refine xa_ar (b := (δ + 3 + Int32.toNatClampNeg (xm_i h3 δ 5))) rfl (xkf (xsR2 hS (xs_D hS))) (xkn (xsR2 hS (xs_D hS))) hg5 (xsTag hS (xs_D hS) hg5) ?_
    refine xw_G (pc' := 41) (ls' := [some (.ref 161), some (.ref (δ + 3 + Int32.toNatClampNeg (xm_i h3 δ 5)))]) (st' := []) rfl rfl (Nat.le_of_ble_eq_true rfl) ?_
    refine xw_G (pc' := 42) (st' := [.ref 161]) rfl rfl trivial ?_
    refine xw_G (pc' := 43) (st' := [.ref 161, .ref 161]) rfl rfl trivial ?_
    refine xb_e hf (fun v6 h7 e8 hf => ?_)
    refine xw_V (v := some (.int v6)) rfl rfl (xkf (xs_k hS rfl rfl : xm_k h3 161 = (6, 0))) (Nat.le_of_ble_eq_true rfl) (Nat.le_of_ble_eq_true rfl) (xm_Rn_le (Nat.le_of_ble_eq_true rfl) (t_X5_findTag  hS e8).1) ?_
    have hS := (t_X5_findTag  hS e8).2
    show xm_W _ _ _ 46 _ [.int v6, .ref 161] _
    refine xb_e hf (fun v9 h10 e11 hf => ?_)
    refine xw_V (v := some (.int v9)) rfl rfl (xkf (xs_k hS rfl rfl : xm_k h7 161 = (6, 0))) (Nat.le_of_ble_eq_true rfl) (Nat.le_of_ble_eq_true rfl) (xm_Rn_le (Nat.le_of_ble_eq_true rfl) (t_X5_isNewName  hS e11).1) ?_
    have hS := (t_X5_isNewName  hS e11).2
    show xm_W _ _ _ 49 _ [.int v9] _
    refine xj_if_ne rfl hf (fun hc12 hf => ?_) (fun hc12 hf => ?_)
    · refine xw_G (pc' := 53) (st' := [.int (0 : Int32)]) rfl rfl trivial ?_
      exact xr_i (inj := xji) rfl rfl rfl rfl hf hQ hS
    · refine xw_G (pc' := 55) (st' := [.ref (δ + 3 + Int32.toNatClampNeg (xm_i h3 δ 5))]) rfl rfl trivial ?_
      refine xw_G (pc' := 56) (st' := [.ref 161, .ref (δ + 3 + Int32.toNatClampNeg (xm_i h3 δ 5))]) rfl rfl trivial ?_
      refine xw_gr rfl (xkf (xs_k hS rfl rfl : xm_k h10 161 = (6, 0))) (xs_r hS rfl) ?_
      refine xb_e hf (fun v13 h14 e15 hf => ?_)
      refine xw_V (v := some (.ref v13)) rfl rfl (xkf (xs_k hS rfl rfl : xm_k h10 162 = (10, 0))) (Nat.le_of_ble_eq_true rfl) (Nat.le_of_ble_eq_true rfl) (xm_Rn_le (Nat.le_of_ble_eq_true rfl) (t_X9_letters  hS e15).1) ?_
      have hS := (t_X9_letters  hS e15).2
      show xm_W _ _ _ 62 _ [.ref v13, .ref (δ + 3 + Int32.toNatClampNeg (xm_i h3 δ 5))] _
      refine xp_r rfl (xkf (xsT hS (xIsT_mk (j := (xm_i h3 δ 5)) (xs_D hS) hg5))) ((xIsT_mk (j := (xm_i h3 δ 5)) (xs_D hS) hg5).ge) hf (fun h16 e17 hf => ?_)
      have hS := xS_name hS e17 (Or.inl (xIsT_mk (j := (xm_i h3 δ 5)) (xs_D hS) hg5))
      refine xw_G (pc' := 66) (st' := [.ref 161]) rfl rfl trivial ?_
      refine xw_gr rfl (xkf (xs_k hS rfl rfl : xm_k h16 161 = (6, 0))) (xs_r hS rfl) ?_
      refine xb_e hf (fun v18 h19 e20 hf => ?_)
      refine xw_V (v := none) rfl rfl (xkf (xs_k hS rfl rfl : xm_k h16 162 = (10, 0))) (Nat.le_of_ble_eq_true rfl) (Nat.le_of_ble_eq_true rfl) (xm_Rn_le (Nat.le_of_ble_eq_true rfl) (t_X9_advance  hS e20).1) ?_
      have hS := (t_X9_advance  hS e20).2
      show xm_W _ _ _ 72 _ [] _
      refine xw_G (pc' := 73) (st' := [.ref 161]) rfl rfl trivial ?_
      refine xw_G (pc' := 74) (st' := [.int (0 : Int32), .ref 161]) rfl rfl trivial ?_
      refine xw_G (pc' := 77) (st' := [.int (999 : Int32), .int (0 : Int32), .ref 161]) rfl rfl trivial ?_
      refine xb_e hf (fun v21 h22 e23 hf => ?_)
      refine xw_V (v := some (.int v21)) rfl rfl (xkf (xs_k hS rfl rfl : xm_k h19 161 = (6, 0))) (Nat.le_of_ble_eq_true rfl) (Nat.le_of_ble_eq_true rfl) (xm_Rn_le (Nat.le_of_ble_eq_true rfl) (t_X5_takeNumber  hS e23).1) ?_
      have hS := (t_X5_takeNumber  hS e23).2
      show xm_W _ _ _ 80 _ [.int v21] _
      refine xj_if_ne rfl hf (fun hc24 hf => ?_) (fun hc24 hf => ?_)
      · refine xw_G (pc' := 84) (st' := [.int (0 : Int32)]) rfl rfl trivial ?_
        exact xr_i (inj := xji) rfl rfl rfl rfl hf hQ hS
      · refine xw_G (pc' := 86) (st' := [.ref (δ + 3 + Int32.toNatClampNeg (xm_i h3 δ 5))]) rfl rfl trivial ?_
        refine xw_G (pc' := 87) (st' := [.ref 161, .ref (δ + 3 + Int32.toNatClampNeg (xm_i h3 δ 5))]) rfl rfl trivial ?_
        refine xw_G (pc' := 90) (st' := [.int (xm_i h22 161 1), .ref (δ + 3 + Int32.toNatClampNeg (xm_i h3 δ 5))]) rfl rfl (xkf (xs_k hS rfl rfl : xm_k h22 161 = (6, 0))) ?_
        refine xp_i rfl (xkf (xsT hS (xIsT_mk (j := (xm_i h3 δ 5)) (xs_D hS) hg5))) ((xIsT_mk (j := (xm_i h3 δ 5)) (xs_D hS) hg5).ge) hf (fun h25 e26 hf => ?_)
        have hS := xS_si hS e26
        refine xw_G (pc' := 94) (st' := [.ref 161]) rfl rfl trivial ?_
        refine xw_gr rfl (xkf (xs_k hS rfl rfl : xm_k h25 161 = (6, 0))) (xs_del hS) ?_
        refine xw_G (pc' := 98) (st' := [.ref δ, .ref δ]) rfl rfl rfl ?_
        refine xw_G (pc' := 101) (st' := [.int (xm_i h25 δ 5), .ref δ]) rfl rfl (xkf (xsR0 hS (xs_D hS))) ?_
        refine xw_G (pc' := 102) (st' := [.int (1 : Int32), .int (xm_i h25 δ 5), .ref δ]) rfl rfl trivial ?_
        refine xw_G (pc' := 103) (st' := [.int ((xm_i h25 δ 5) + (1 : Int32)), .ref δ]) rfl rfl trivial ?_
        refine xp_i rfl (xkf (xsR0 hS (xs_D hS))) ((xs_D hS).ge 0) hf (fun h27 e28 hf => ?_)
        have hS := xS_si hS e28
        refine xw_G (pc' := 107) (st' := [.ref 161]) rfl rfl trivial ?_
        refine xb_e hf (fun v29 h30 e31 hf => ?_)
        refine xw_V (v := some (.int v29)) rfl rfl (xkf (xs_k hS rfl rfl : xm_k h27 161 = (6, 0))) (Nat.le_of_ble_eq_true rfl) (Nat.le_of_ble_eq_true rfl) (xm_Rn_le (Nat.le_of_ble_eq_true rfl) (t_X5_takeSemicolon  hS e31).1) ?_
        have hS := (t_X5_takeSemicolon  hS e31).2
        show xm_W _ _ _ 110 _ [.int v29] _
        refine xg_e hf (fun hg32 hf => ?_)
        exact xr_i (inj := xji) rfl rfl (xnar_z hg32).1 rfl hf hQ hS
  · refine xw_G (pc' := 13) (st' := [.ref 161]) rfl rfl trivial ?_
    refine xw_G (pc' := 14) (st' := [.int (5 : Int32), .ref 161]) rfl rfl trivial ?_
    refine xb_e hf (fun v33 h34 e35 hf => ?_)
    refine xw_V (v := some (.int v33)) rfl rfl (xkf (xs_k hS rfl rfl : xm_k h 161 = (6, 0))) (Nat.le_of_ble_eq_true rfl) (Nat.le_of_ble_eq_true rfl) (xm_Rn_le (Nat.le_of_ble_eq_true rfl) (t_X5_fail  hS e35).1) ?_
    have hS := (t_X5_fail  hS e35).2
    show xm_W _ _ _ 17 _ [.int v33] _
    refine xg_e hf (fun hg36 hf => ?_)
    exact xr_i (inj := xji) rfl rfl (xnar_z hg36).1 rfl hf hQ hS
def f_X5_findCampaign_2B (N : Nat) (δ : Nat) (rec : Int32 → xm_H → Option (Int32 × xm_H)) (c1 : Int32) (h : xm_H) : Option (Int32 × xm_H) := (if c1 < (xm_i h δ 7) then (if xin c1 8 then (xbr (xm_r h (δ + 10 + Int32.toNatClampNeg c1) 0) fun b3 => (xb (f_X9_spells N b3 h) fun v5 h6 => (if v5 = 0 then (rec (c1 + (1 : Int32)) h6) else (some (c1, h6))))) else none) else (some ((-1 : Int32), h)))
def f_X5_findCampaign_2 (N : Nat) (δ : Nat) : Nat → Int32 → xm_H → Option (Int32 × xm_H)
  | 0 => fun _ _ => none
  | n + 1 => fun c1 h => f_X5_findCampaign_2B N δ (f_X5_findCampaign_2 N δ n) c1 h
def f_X5_findCampaign (N : Nat) (δ : Nat) (h : xm_H) : Option (Int32 × xm_H) := (f_X5_findCampaign_2 N δ N (0 : Int32) h)
theorem tl_X5_findCampaign_2 {ρ : Nat} {N : Nat} {δ : Nat} {Q : xm_O → xm_H → Prop} {w : Int32 × xm_H}  (hQ : xS ρ δ w.2 → Q (xji w.1) w.2)  : ∀ (n : Nat) (c1 : Int32) (h : xm_H), xS ρ δ h → f_X5_findCampaign_2 N δ n c1 h = some w → xm_W (xm_Rn xX 5) xM_X5_findCampaign Q 2 [some (.ref 161), some (.int c1)] [] h := by
  intro n
  induction n with
  | zero =>
    intro c1 h hS hf
    exact (xn_e hf).elim
  | succ n ih =>
    intro c1 h hS hf
    replace hf : f_X5_findCampaign_2B N δ (f_X5_findCampaign_2 N δ n) c1 h = some w := hf
    unfold f_X5_findCampaign_2B at hf
    refine xw_K (pc' := 3) (ls' := [some (.ref 161), some (.int c1)]) (st' := [.int c1]) rfl rfl trivial ?_
    refine xw_G (pc' := 4) (st' := [.ref 161, .int c1]) rfl rfl trivial ?_
    refine xw_gr rfl (xkf (xs_k hS rfl rfl : xm_k h 161 = (6, 0))) (xs_del hS) ?_
    refine xw_G (pc' := 10) (st' := [.int (xm_i h δ 7), .int c1]) rfl rfl (xkf (xsR0 hS (xs_D hS))) ?_
    refine xj_ic_ge rfl hf (fun hc1 hf => ?_) (fun hc1 hf => ?_)
    · refine xw_G (pc' := 14) (st' := [.ref 161]) rfl rfl trivial ?_
      refine xw_gr rfl (xkf (xs_k hS rfl rfl : xm_k h 161 = (6, 0))) (xs_r hS rfl) ?_
      refine xw_G (pc' := 18) (st' := [.ref 161, .ref 162]) rfl rfl trivial ?_
      refine xw_gr rfl (xkf (xs_k hS rfl rfl : xm_k h 161 = (6, 0))) (xs_del hS) ?_
      refine xw_gr rfl (xkf (xsR0 hS (xs_D hS))) (xsRr6 hS (xs_D hS)) ?_
      refine xw_G (pc' := 25) (st' := [.int c1, .ref (δ + 9), .ref 162]) rfl rfl trivial ?_
      refine xg_e hf (fun hg2 hf => ?_)
      refine xa_ar (b := (δ + 10 + Int32.toNatClampNeg c1)) rfl (xkf (xsR9 hS (xs_D hS))) (xkn (xsR9 hS (xs_D hS))) hg2 (xsCam hS (xs_D hS) hg2) ?_
      refine xbr_e hf (fun b3 hr4 hf => ?_)
      refine xw_gr rfl (xkf (xsC hS (xIsC_mk (j := c1) (xs_D hS) hg2))) hr4 ?_
      refine xb_e hf (fun v5 h6 e7 hf => ?_)
      refine xw_V (v := some (.int v5)) rfl rfl (xkf (xs_k hS rfl rfl : xm_k h 162 = (10, 0))) (Nat.le_of_ble_eq_true rfl) (Nat.le_of_ble_eq_true rfl) (xm_Rn_le (Nat.le_of_ble_eq_true rfl) (t_X9_spells  hS e7).1) ?_
      have hS := (t_X9_spells  hS e7).2
      show xm_W _ _ _ 32 _ [.int v5] _
      refine xj_if_eq rfl hf (fun hc8 hf => ?_) (fun hc8 hf => ?_)
      · refine xw_G (pc' := 40) (ls' := [some (.ref 161), some (.int (c1 + (1 : Int32)))]) (st' := []) rfl rfl (Nat.le_of_ble_eq_true rfl) ?_
        refine xw_G (pc' := 2) (st' := []) rfl rfl trivial ?_
        refine xw_M rfl rfl ?_
        exact ih _ _ hS hf
      · refine xw_G (pc' := 36) (st' := [.int c1]) rfl rfl trivial ?_
        exact xr_i (inj := xji) rfl rfl rfl rfl hf hQ hS
    · refine xw_G (pc' := 44) (st' := [.int (-1 : Int32)]) rfl rfl trivial ?_
      exact xr_i (inj := xji) rfl rfl rfl rfl hf hQ hS
theorem t_X5_findCampaign {N : Nat} {ρ : Nat} {δ : Nat} {h : xm_H} {w : Int32 × xm_H}  (hS : xS ρ δ h) (hf : f_X5_findCampaign N δ h = some w) : xm_Rn xX 6 50 [.ref 161] h (xji w.1) w.2 ∧ xS ρ δ w.2 := by
  refine xt_mk (φ := fun h => xS ρ δ h) (M := xM_X5_findCampaign) (ls := [some (.ref 161), none]) rfl (Nat.le_of_ble_eq_true rfl) rfl (fun Q hQ => ?_)
  unfold f_X5_findCampaign at hf
  refine xw_G (pc' := 1) (st' := [.int (0 : Int32)]) rfl rfl trivial ?_
  refine xw_G (pc' := 2) (ls' := [some (.ref 161), some (.int (0 : Int32))]) (st' := []) rfl rfl (Nat.le_of_ble_eq_true rfl) ?_
  refine xw_M rfl rfl ?_
  refine tl_X5_findCampaign_2  hQ  _ _ _ hS hf
def f_X5_takeTarget (N : Nat) (δ : Nat) (h : xm_H) : Option (Int32 × xm_H) := (if (xm_i h 162 4) = (1 : Int32) then (xb (f_X5_findTag N δ h) fun v2 h3 => (xl (xm_si h3 161 2 v2) fun h5 => (if (xm_i h5 161 2) = (-1 : Int32) then (xb (f_X9_spells N 17 h5) fun v8 h9 => (if v8 = 0 then (xb (f_X5_fail (4 : Int32) h9) fun v12 h13 => (if v12 = 0 ∨ v12 = 1 then (some (v12, h13)) else none)) else (xb (f_X9_advance N h9) fun v16 h17 => (some ((1 : Int32), h17))))) else (xb (f_X9_advance N h5) fun v19 h20 => (some ((1 : Int32), h20)))))) else (xb (f_X5_unexpected h) fun v22 h23 => (if v22 = 0 ∨ v22 = 1 then (some (v22, h23)) else none)))
theorem t_X5_takeTarget {N : Nat} {ρ : Nat} {δ : Nat} {h : xm_H} {w : Int32 × xm_H}  (hS : xS ρ δ h) (hf : f_X5_takeTarget N δ h = some w) : xm_Rn xX 7 44 [.ref 161] h (xji w.1) w.2 ∧ xS ρ δ w.2 := by
  refine xt_mk (φ := fun h => xS ρ δ h) (M := xM_X5_takeTarget) (ls := [some (.ref 161)]) rfl (Nat.le_of_ble_eq_true rfl) rfl (fun Q hQ => ?_)
  unfold f_X5_takeTarget at hf
  refine xw_G (pc' := 1) (st' := [.ref 161]) rfl rfl trivial ?_
  refine xw_gr rfl (xkf (xs_k hS rfl rfl : xm_k h 161 = (6, 0))) (xs_r hS rfl) ?_
  refine xw_G (pc' := 7) (st' := [.int (xm_i h 162 4)]) rfl rfl (xkf (xs_k hS rfl rfl : xm_k h 162 = (10, 0))) ?_
  refine xw_G (pc' := 8) (st' := [.int (1 : Int32), .int (xm_i h 162 4)]) rfl rfl trivial ?_
  refine xj_ic_eq rfl hf (fun hc1 hf => ?_) (fun hc1 hf => ?_)
  · refine xw_G (pc' := 17) (st' := [.ref 161]) rfl rfl trivial ?_
    refine xw_G (pc' := 18) (st' := [.ref 161, .ref 161]) rfl rfl trivial ?_
    refine xb_e hf (fun v2 h3 e4 hf => ?_)
    refine xw_V (v := some (.int v2)) rfl rfl (xkf (xs_k hS rfl rfl : xm_k h 161 = (6, 0))) (Nat.le_of_ble_eq_true rfl) (Nat.le_of_ble_eq_true rfl) (xm_Rn_le (Nat.le_of_ble_eq_true rfl) (t_X5_findTag  hS e4).1) ?_
    have hS := (t_X5_findTag  hS e4).2
    show xm_W _ _ _ 21 _ [.int v2, .ref 161] _
    refine xp_i rfl (xkf (xs_k hS rfl rfl : xm_k h3 161 = (6, 0))) (Nat.le_of_ble_eq_true rfl) hf (fun h5 e6 hf => ?_)
    have hS := xS_si hS e6
    refine xw_G (pc' := 25) (st' := [.ref 161]) rfl rfl trivial ?_
    refine xw_G (pc' := 28) (st' := [.int (xm_i h5 161 2)]) rfl rfl (xkf (xs_k hS rfl rfl : xm_k h5 161 = (6, 0))) ?_
    refine xw_G (pc' := 29) (st' := [.int (-1 : Int32), .int (xm_i h5 161 2)]) rfl rfl trivial ?_
    refine xj_ic_ne rfl hf (fun hc7 hf => ?_) (fun hc7 hf => ?_)
    · refine xw_G (pc' := 33) (st' := [.ref 161]) rfl rfl trivial ?_
      refine xw_gr rfl (xkf (xs_k hS rfl rfl : xm_k h5 161 = (6, 0))) (xs_r hS rfl) ?_
      refine xw_G (pc' := 38) (st' := [.ref 17, .ref 162]) rfl rfl trivial ?_
      refine xb_e hf (fun v8 h9 e10 hf => ?_)
      refine xw_V (v := some (.int v8)) rfl rfl (xkf (xs_k hS rfl rfl : xm_k h5 162 = (10, 0))) (Nat.le_of_ble_eq_true rfl) (Nat.le_of_ble_eq_true rfl) (xm_Rn_le (Nat.le_of_ble_eq_true rfl) (t_X9_spells  hS e10).1) ?_
      have hS := (t_X9_spells  hS e10).2
      show xm_W _ _ _ 41 _ [.int v8] _
      refine xj_if_ne rfl hf (fun hc11 hf => ?_) (fun hc11 hf => ?_)
      · refine xw_G (pc' := 45) (st' := [.ref 161]) rfl rfl trivial ?_
        refine xw_G (pc' := 46) (st' := [.int (4 : Int32), .ref 161]) rfl rfl trivial ?_
        refine xb_e hf (fun v12 h13 e14 hf => ?_)
        refine xw_V (v := some (.int v12)) rfl rfl (xkf (xs_k hS rfl rfl : xm_k h9 161 = (6, 0))) (Nat.le_of_ble_eq_true rfl) (Nat.le_of_ble_eq_true rfl) (xm_Rn_le (Nat.le_of_ble_eq_true rfl) (t_X5_fail  hS e14).1) ?_
        have hS := (t_X5_fail  hS e14).2
        show xm_W _ _ _ 49 _ [.int v12] _
        refine xg_e hf (fun hg15 hf => ?_)
        exact xr_i (inj := xji) rfl rfl (xnar_z hg15).1 rfl hf hQ hS
      · refine xw_G (pc' := 51) (st' := [.ref 161]) rfl rfl trivial ?_
        refine xw_gr rfl (xkf (xs_k hS rfl rfl : xm_k h9 161 = (6, 0))) (xs_r hS rfl) ?_
        refine xb_e hf (fun v16 h17 e18 hf => ?_)
        refine xw_V (v := none) rfl rfl (xkf (xs_k hS rfl rfl : xm_k h9 162 = (10, 0))) (Nat.le_of_ble_eq_true rfl) (Nat.le_of_ble_eq_true rfl) (xm_Rn_le (Nat.le_of_ble_eq_true rfl) (t_X9_advance  hS e18).1) ?_
        have hS := (t_X9_advance  hS e18).2
        show xm_W _ _ _ 57 _ [] _
        refine xw_G (pc' := 58) (st' := [.int (1 : Int32)]) rfl rfl trivial ?_
        exact xr_i (inj := xji) rfl rfl rfl rfl hf hQ hS
    · refine xw_G (pc' := 51) (st' := [.ref 161]) rfl rfl trivial ?_
      refine xw_gr rfl (xkf (xs_k hS rfl rfl : xm_k h5 161 = (6, 0))) (xs_r hS rfl) ?_
      refine xb_e hf (fun v19 h20 e21 hf => ?_)
      refine xw_V (v := none) rfl rfl (xkf (xs_k hS rfl rfl : xm_k h5 162 = (10, 0))) (Nat.le_of_ble_eq_true rfl) (Nat.le_of_ble_eq_true rfl) (xm_Rn_le (Nat.le_of_ble_eq_true rfl) (t_X9_advance  hS e21).1) ?_
      have hS := (t_X9_advance  hS e21).2
      show xm_W _ _ _ 57 _ [] _
      refine xw_G (pc' := 58) (st' := [.int (1 : Int32)]) rfl rfl trivial ?_
      exact xr_i (inj := xji) rfl rfl rfl rfl hf hQ hS
  · refine xw_G (pc' := 12) (st' := [.ref 161]) rfl rfl trivial ?_
    refine xb_e hf (fun v22 h23 e24 hf => ?_)
    refine xw_V (v := some (.int v22)) rfl rfl (xkf (xs_k hS rfl rfl : xm_k h 161 = (6, 0))) (Nat.le_of_ble_eq_true rfl) (Nat.le_of_ble_eq_true rfl) (xm_Rn_le (Nat.le_of_ble_eq_true rfl) (t_X5_unexpected  hS e24).1) ?_
    have hS := (t_X5_unexpected  hS e24).2
    show xm_W _ _ _ 15 _ [.int v22] _
    refine xg_e hf (fun hg25 hf => ?_)
    exact xr_i (inj := xji) rfl rfl (xnar_z hg25).1 rfl hf hQ hS
def f_X5_newCampaign (N : Nat) (δ : Nat) (h : xm_H) : Option (Int32 × xm_H) := (if (xm_i h δ 7) < (8 : Int32) then (xb (f_X9_advance N h) fun v2 h3 => (if xin (xm_i h3 δ 7) 8 then (xb (f_X5_findCampaign N δ h3) fun v6 h7 => (xb (f_X5_isNewName N v6 h7) fun v9 h10 => (if v9 = 0 then (some ((0 : Int32), h10)) else (xb (f_X9_letters N h10) fun v13 h14 => (xl (xm_sr h14 (δ + 10 + Int32.toNatClampNeg (xm_i h3 δ 7)) 0 (some v13)) fun h16 => (xb (f_X9_advance N h16) fun v18 h19 => (xb (f_X5_takeNumber N (1 : Int32) (999 : Int32) h19) fun v21 h22 => (if v21 = 0 then (some ((0 : Int32), h22)) else (xl (xm_si h22 (δ + 10 + Int32.toNatClampNeg (xm_i h3 δ 7)) 1 (xm_i h22 161 1)) fun h25 => (xb (f_X5_takeNumber N (1 : Int32) (9999 : Int32) h25) fun v27 h28 => (if v27 = 0 then (some ((0 : Int32), h28)) else (xl (xm_si h28 (δ + 10 + Int32.toNatClampNeg (xm_i h3 δ 7)) 2 (xm_i h28 161 1)) fun h31 => (xb (f_X5_takeNumber N (1 : Int32) (9 : Int32) h31) fun v33 h34 => (if v33 = 0 then (some ((0 : Int32), h34)) else (xl (xm_si h34 (δ + 10 + Int32.toNatClampNeg (xm_i h3 δ 7)) 3 (xm_i h34 161 1)) fun h37 => (xb (f_X5_takeNumber N (1 : Int32) (999 : Int32) h37) fun v39 h40 => (if v39 = 0 then (some ((0 : Int32), h40)) else (xl (xm_si h40 (δ + 10 + Int32.toNatClampNeg (xm_i h3 δ 7)) 4 (xm_i h40 161 1)) fun h43 => (xb (f_X5_takeTarget N δ h43) fun v45 h46 => (if v45 = 0 then (some ((0 : Int32), h46)) else (xl (xm_si h46 (δ + 10 + Int32.toNatClampNeg (xm_i h3 δ 7)) 5 (xm_i h46 161 2)) fun h49 => (xl (xm_si h49 (δ + 10 + Int32.toNatClampNeg (xm_i h3 δ 7)) 6 (0 : Int32)) fun h51 => (xl (xm_si h51 (δ + 10 + Int32.toNatClampNeg (xm_i h3 δ 7)) 7 (0 : Int32)) fun h53 => (xl (xm_si h53 δ 7 ((xm_i h53 δ 7) + (1 : Int32))) fun h55 => (xb (f_X5_takeSemicolon N h55) fun v57 h58 => (if v57 = 0 ∨ v57 = 1 then (some (v57, h58)) else none)))))))))))))))))))))))))) else none)) else (xb (f_X5_fail (5 : Int32) h) fun v61 h62 => (if v61 = 0 ∨ v61 = 1 then (some (v61, h62)) else none)))
theorem t_X5_newCampaign {N : Nat} {ρ : Nat} {δ : Nat} {h : xm_H} {w : Int32 × xm_H}  (hS : xS ρ δ h) (hf : f_X5_newCampaign N δ h = some w) : xm_Rn xX 8 43 [.ref 161] h (xji w.1) w.2 ∧ xS ρ δ w.2 := by
  refine xt_mk (φ := fun h => xS ρ δ h) (M := xM_X5_newCampaign) (ls := [some (.ref 161), none]) rfl (Nat.le_of_ble_eq_true rfl) rfl (fun Q hQ => ?_)
  unfold f_X5_newCampaign at hf
  refine xw_G (pc' := 1) (st' := [.ref 161]) rfl rfl trivial ?_
  refine xw_gr rfl (xkf (xs_k hS rfl rfl : xm_k h 161 = (6, 0))) (xs_del hS) ?_
  refine xw_G (pc' := 7) (st' := [.int (xm_i h δ 7)]) rfl rfl (xkf (xsR0 hS (xs_D hS))) ?_
  refine xw_G (pc' := 9) (st' := [.int (8 : Int32), .int (xm_i h δ 7)]) rfl rfl trivial ?_
  refine xj_ic_lt rfl hf (fun hc1 hf => ?_) (fun hc1 hf => ?_)
  · refine xw_G (pc' := 19) (st' := [.ref 161]) rfl rfl trivial ?_
    refine xw_gr rfl (xkf (xs_k hS rfl rfl : xm_k h 161 = (6, 0))) (xs_r hS rfl) ?_
    refine xb_e hf (fun v2 h3 e4 hf => ?_)
    refine xw_V (v := none) rfl rfl (xkf (xs_k hS rfl rfl : xm_k h 162 = (10, 0))) (Nat.le_of_ble_eq_true rfl) (Nat.le_of_ble_eq_true rfl) (xm_Rn_le (Nat.le_of_ble_eq_true rfl) (t_X9_advance  hS e4).1) ?_
    have hS := (t_X9_advance  hS e4).2
    show xm_W _ _ _ 25 _ [] _
    refine xw_G (pc' := 26) (st' := [.ref 161]) rfl rfl trivial ?_
    refine xw_gr rfl (xkf (xs_k hS rfl rfl : xm_k h3 161 = (6, 0))) (xs_del hS) ?_
    refine xw_gr rfl (xkf (xsR0 hS (xs_D hS))) (xsRr6 hS (xs_D hS)) ?_
    refine xw_G (pc' := 33) (st' := [.ref 161, .ref (δ + 9)]) rfl rfl trivial ?_
    refine xw_gr rfl (xkf (xs_k hS rfl rfl : xm_k h3 161 = (6, 0))) (xs_del hS) ?_
    refine xw_G (pc' := 39) (st' := [.int (xm_i h3 δ 7), .ref (δ + 9)]) rfl rfl (xkf (xsR0 hS (xs_D hS))) ?_
    refine xg_e hf (fun hg5 hf => ?_)
    refine xa_ar (b := (δ + 10 + Int32.toNatClampNeg (xm_i h3 δ 7))) rfl (xkf (xsR9 hS (xs_D hS))) (xkn (xsR9 hS (xs_D hS))) hg5 (xsCam hS (xs_D hS) hg5) ?_
    refine xw_G (pc' := 41) (ls' := [some (.ref 161), some (.ref (δ + 10 + Int32.toNatClampNeg (xm_i h3 δ 7)))]) (st' := []) rfl rfl (Nat.le_of_ble_eq_true rfl) ?_
    refine xw_G (pc' := 42) (st' := [.ref 161]) rfl rfl trivial ?_
    refine xw_G (pc' := 43) (st' := [.ref 161, .ref 161]) rfl rfl trivial ?_
    refine xb_e hf (fun v6 h7 e8 hf => ?_)
    refine xw_V (v := some (.int v6)) rfl rfl (xkf (xs_k hS rfl rfl : xm_k h3 161 = (6, 0))) (Nat.le_of_ble_eq_true rfl) (Nat.le_of_ble_eq_true rfl) (xm_Rn_le (Nat.le_of_ble_eq_true rfl) (t_X5_findCampaign  hS e8).1) ?_
    have hS := (t_X5_findCampaign  hS e8).2
    show xm_W _ _ _ 46 _ [.int v6, .ref 161] _
    refine xb_e hf (fun v9 h10 e11 hf => ?_)
    refine xw_V (v := some (.int v9)) rfl rfl (xkf (xs_k hS rfl rfl : xm_k h7 161 = (6, 0))) (Nat.le_of_ble_eq_true rfl) (Nat.le_of_ble_eq_true rfl) (xm_Rn_le (Nat.le_of_ble_eq_true rfl) (t_X5_isNewName  hS e11).1) ?_
    have hS := (t_X5_isNewName  hS e11).2
    show xm_W _ _ _ 49 _ [.int v9] _
    refine xj_if_ne rfl hf (fun hc12 hf => ?_) (fun hc12 hf => ?_)
    · refine xw_G (pc' := 53) (st' := [.int (0 : Int32)]) rfl rfl trivial ?_
      exact xr_i (inj := xji) rfl rfl rfl rfl hf hQ hS
    · refine xw_G (pc' := 55) (st' := [.ref (δ + 10 + Int32.toNatClampNeg (xm_i h3 δ 7))]) rfl rfl trivial ?_
      refine xw_G (pc' := 56) (st' := [.ref 161, .ref (δ + 10 + Int32.toNatClampNeg (xm_i h3 δ 7))]) rfl rfl trivial ?_
      refine xw_gr rfl (xkf (xs_k hS rfl rfl : xm_k h10 161 = (6, 0))) (xs_r hS rfl) ?_
      refine xb_e hf (fun v13 h14 e15 hf => ?_)
      refine xw_V (v := some (.ref v13)) rfl rfl (xkf (xs_k hS rfl rfl : xm_k h10 162 = (10, 0))) (Nat.le_of_ble_eq_true rfl) (Nat.le_of_ble_eq_true rfl) (xm_Rn_le (Nat.le_of_ble_eq_true rfl) (t_X9_letters  hS e15).1) ?_
      have hS := (t_X9_letters  hS e15).2
      show xm_W _ _ _ 62 _ [.ref v13, .ref (δ + 10 + Int32.toNatClampNeg (xm_i h3 δ 7))] _
      refine xp_r rfl (xkf (xsC hS (xIsC_mk (j := (xm_i h3 δ 7)) (xs_D hS) hg5))) ((xIsC_mk (j := (xm_i h3 δ 7)) (xs_D hS) hg5).ge) hf (fun h16 e17 hf => ?_)
      have hS := xS_name hS e17 (Or.inr (xIsC_mk (j := (xm_i h3 δ 7)) (xs_D hS) hg5))
      refine xw_G (pc' := 66) (st' := [.ref 161]) rfl rfl trivial ?_
      refine xw_gr rfl (xkf (xs_k hS rfl rfl : xm_k h16 161 = (6, 0))) (xs_r hS rfl) ?_
      refine xb_e hf (fun v18 h19 e20 hf => ?_)
      refine xw_V (v := none) rfl rfl (xkf (xs_k hS rfl rfl : xm_k h16 162 = (10, 0))) (Nat.le_of_ble_eq_true rfl) (Nat.le_of_ble_eq_true rfl) (xm_Rn_le (Nat.le_of_ble_eq_true rfl) (t_X9_advance  hS e20).1) ?_
      have hS := (t_X9_advance  hS e20).2
      show xm_W _ _ _ 72 _ [] _
      refine xw_G (pc' := 73) (st' := [.ref 161]) rfl rfl trivial ?_
      refine xw_G (pc' := 74) (st' := [.int (1 : Int32), .ref 161]) rfl rfl trivial ?_
      refine xw_G (pc' := 77) (st' := [.int (999 : Int32), .int (1 : Int32), .ref 161]) rfl rfl trivial ?_
      refine xb_e hf (fun v21 h22 e23 hf => ?_)
      refine xw_V (v := some (.int v21)) rfl rfl (xkf (xs_k hS rfl rfl : xm_k h19 161 = (6, 0))) (Nat.le_of_ble_eq_true rfl) (Nat.le_of_ble_eq_true rfl) (xm_Rn_le (Nat.le_of_ble_eq_true rfl) (t_X5_takeNumber  hS e23).1) ?_
      have hS := (t_X5_takeNumber  hS e23).2
      show xm_W _ _ _ 80 _ [.int v21] _
      refine xj_if_ne rfl hf (fun hc24 hf => ?_) (fun hc24 hf => ?_)
      · refine xw_G (pc' := 84) (st' := [.int (0 : Int32)]) rfl rfl trivial ?_
        exact xr_i (inj := xji) rfl rfl rfl rfl hf hQ hS
      · refine xw_G (pc' := 86) (st' := [.ref (δ + 10 + Int32.toNatClampNeg (xm_i h3 δ 7))]) rfl rfl trivial ?_
        refine xw_G (pc' := 87) (st' := [.ref 161, .ref (δ + 10 + Int32.toNatClampNeg (xm_i h3 δ 7))]) rfl rfl trivial ?_
        refine xw_G (pc' := 90) (st' := [.int (xm_i h22 161 1), .ref (δ + 10 + Int32.toNatClampNeg (xm_i h3 δ 7))]) rfl rfl (xkf (xs_k hS rfl rfl : xm_k h22 161 = (6, 0))) ?_
        refine xp_i rfl (xkf (xsC hS (xIsC_mk (j := (xm_i h3 δ 7)) (xs_D hS) hg5))) ((xIsC_mk (j := (xm_i h3 δ 7)) (xs_D hS) hg5).ge) hf (fun h25 e26 hf => ?_)
        have hS := xS_si hS e26
        refine xw_G (pc' := 94) (st' := [.ref 161]) rfl rfl trivial ?_
        refine xw_G (pc' := 95) (st' := [.int (1 : Int32), .ref 161]) rfl rfl trivial ?_
        refine xw_G (pc' := 98) (st' := [.int (9999 : Int32), .int (1 : Int32), .ref 161]) rfl rfl trivial ?_
        refine xb_e hf (fun v27 h28 e29 hf => ?_)
        refine xw_V (v := some (.int v27)) rfl rfl (xkf (xs_k hS rfl rfl : xm_k h25 161 = (6, 0))) (Nat.le_of_ble_eq_true rfl) (Nat.le_of_ble_eq_true rfl) (xm_Rn_le (Nat.le_of_ble_eq_true rfl) (t_X5_takeNumber  hS e29).1) ?_
        have hS := (t_X5_takeNumber  hS e29).2
        show xm_W _ _ _ 101 _ [.int v27] _
        refine xj_if_ne rfl hf (fun hc30 hf => ?_) (fun hc30 hf => ?_)
        · refine xw_G (pc' := 105) (st' := [.int (0 : Int32)]) rfl rfl trivial ?_
          exact xr_i (inj := xji) rfl rfl rfl rfl hf hQ hS
        · refine xw_G (pc' := 107) (st' := [.ref (δ + 10 + Int32.toNatClampNeg (xm_i h3 δ 7))]) rfl rfl trivial ?_
          refine xw_G (pc' := 108) (st' := [.ref 161, .ref (δ + 10 + Int32.toNatClampNeg (xm_i h3 δ 7))]) rfl rfl trivial ?_
          refine xw_G (pc' := 111) (st' := [.int (xm_i h28 161 1), .ref (δ + 10 + Int32.toNatClampNeg (xm_i h3 δ 7))]) rfl rfl (xkf (xs_k hS rfl rfl : xm_k h28 161 = (6, 0))) ?_
          refine xp_i rfl (xkf (xsC hS (xIsC_mk (j := (xm_i h3 δ 7)) (xs_D hS) hg5))) ((xIsC_mk (j := (xm_i h3 δ 7)) (xs_D hS) hg5).ge) hf (fun h31 e32 hf => ?_)
          have hS := xS_si hS e32
          refine xw_G (pc' := 115) (st' := [.ref 161]) rfl rfl trivial ?_
          refine xw_G (pc' := 116) (st' := [.int (1 : Int32), .ref 161]) rfl rfl trivial ?_
          refine xw_G (pc' := 118) (st' := [.int (9 : Int32), .int (1 : Int32), .ref 161]) rfl rfl trivial ?_
          refine xb_e hf (fun v33 h34 e35 hf => ?_)
          refine xw_V (v := some (.int v33)) rfl rfl (xkf (xs_k hS rfl rfl : xm_k h31 161 = (6, 0))) (Nat.le_of_ble_eq_true rfl) (Nat.le_of_ble_eq_true rfl) (xm_Rn_le (Nat.le_of_ble_eq_true rfl) (t_X5_takeNumber  hS e35).1) ?_
          have hS := (t_X5_takeNumber  hS e35).2
          show xm_W _ _ _ 121 _ [.int v33] _
          refine xj_if_ne rfl hf (fun hc36 hf => ?_) (fun hc36 hf => ?_)
          · refine xw_G (pc' := 125) (st' := [.int (0 : Int32)]) rfl rfl trivial ?_
            exact xr_i (inj := xji) rfl rfl rfl rfl hf hQ hS
          · refine xw_G (pc' := 127) (st' := [.ref (δ + 10 + Int32.toNatClampNeg (xm_i h3 δ 7))]) rfl rfl trivial ?_
            refine xw_G (pc' := 128) (st' := [.ref 161, .ref (δ + 10 + Int32.toNatClampNeg (xm_i h3 δ 7))]) rfl rfl trivial ?_
            refine xw_G (pc' := 131) (st' := [.int (xm_i h34 161 1), .ref (δ + 10 + Int32.toNatClampNeg (xm_i h3 δ 7))]) rfl rfl (xkf (xs_k hS rfl rfl : xm_k h34 161 = (6, 0))) ?_
            refine xp_i rfl (xkf (xsC hS (xIsC_mk (j := (xm_i h3 δ 7)) (xs_D hS) hg5))) ((xIsC_mk (j := (xm_i h3 δ 7)) (xs_D hS) hg5).ge) hf (fun h37 e38 hf => ?_)
            have hS := xS_si hS e38
            refine xw_G (pc' := 135) (st' := [.ref 161]) rfl rfl trivial ?_
            refine xw_G (pc' := 136) (st' := [.int (1 : Int32), .ref 161]) rfl rfl trivial ?_
            refine xw_G (pc' := 139) (st' := [.int (999 : Int32), .int (1 : Int32), .ref 161]) rfl rfl trivial ?_
            refine xb_e hf (fun v39 h40 e41 hf => ?_)
            refine xw_V (v := some (.int v39)) rfl rfl (xkf (xs_k hS rfl rfl : xm_k h37 161 = (6, 0))) (Nat.le_of_ble_eq_true rfl) (Nat.le_of_ble_eq_true rfl) (xm_Rn_le (Nat.le_of_ble_eq_true rfl) (t_X5_takeNumber  hS e41).1) ?_
            have hS := (t_X5_takeNumber  hS e41).2
            show xm_W _ _ _ 142 _ [.int v39] _
            refine xj_if_ne rfl hf (fun hc42 hf => ?_) (fun hc42 hf => ?_)
            · refine xw_G (pc' := 146) (st' := [.int (0 : Int32)]) rfl rfl trivial ?_
              exact xr_i (inj := xji) rfl rfl rfl rfl hf hQ hS
            · refine xw_G (pc' := 148) (st' := [.ref (δ + 10 + Int32.toNatClampNeg (xm_i h3 δ 7))]) rfl rfl trivial ?_
              refine xw_G (pc' := 149) (st' := [.ref 161, .ref (δ + 10 + Int32.toNatClampNeg (xm_i h3 δ 7))]) rfl rfl trivial ?_
              refine xw_G (pc' := 152) (st' := [.int (xm_i h40 161 1), .ref (δ + 10 + Int32.toNatClampNeg (xm_i h3 δ 7))]) rfl rfl (xkf (xs_k hS rfl rfl : xm_k h40 161 = (6, 0))) ?_
              refine xp_i rfl (xkf (xsC hS (xIsC_mk (j := (xm_i h3 δ 7)) (xs_D hS) hg5))) ((xIsC_mk (j := (xm_i h3 δ 7)) (xs_D hS) hg5).ge) hf (fun h43 e44 hf => ?_)
              have hS := xS_si hS e44
              refine xw_G (pc' := 156) (st' := [.ref 161]) rfl rfl trivial ?_
              refine xb_e hf (fun v45 h46 e47 hf => ?_)
              refine xw_V (v := some (.int v45)) rfl rfl (xkf (xs_k hS rfl rfl : xm_k h43 161 = (6, 0))) (Nat.le_of_ble_eq_true rfl) (Nat.le_of_ble_eq_true rfl) (xm_Rn_le (Nat.le_of_ble_eq_true rfl) (t_X5_takeTarget  hS e47).1) ?_
              have hS := (t_X5_takeTarget  hS e47).2
              show xm_W _ _ _ 159 _ [.int v45] _
              refine xj_if_ne rfl hf (fun hc48 hf => ?_) (fun hc48 hf => ?_)
              · refine xw_G (pc' := 163) (st' := [.int (0 : Int32)]) rfl rfl trivial ?_
                exact xr_i (inj := xji) rfl rfl rfl rfl hf hQ hS
              · refine xw_G (pc' := 165) (st' := [.ref (δ + 10 + Int32.toNatClampNeg (xm_i h3 δ 7))]) rfl rfl trivial ?_
                refine xw_G (pc' := 166) (st' := [.ref 161, .ref (δ + 10 + Int32.toNatClampNeg (xm_i h3 δ 7))]) rfl rfl trivial ?_
                refine xw_G (pc' := 169) (st' := [.int (xm_i h46 161 2), .ref (δ + 10 + Int32.toNatClampNeg (xm_i h3 δ 7))]) rfl rfl (xkf (xs_k hS rfl rfl : xm_k h46 161 = (6, 0))) ?_
                refine xp_i rfl (xkf (xsC hS (xIsC_mk (j := (xm_i h3 δ 7)) (xs_D hS) hg5))) ((xIsC_mk (j := (xm_i h3 δ 7)) (xs_D hS) hg5).ge) hf (fun h49 e50 hf => ?_)
                have hS := xS_si hS e50
                refine xw_G (pc' := 173) (st' := [.ref (δ + 10 + Int32.toNatClampNeg (xm_i h3 δ 7))]) rfl rfl trivial ?_
                refine xw_G (pc' := 174) (st' := [.int (0 : Int32), .ref (δ + 10 + Int32.toNatClampNeg (xm_i h3 δ 7))]) rfl rfl trivial ?_
                refine xp_i rfl (xkf (xsC hS (xIsC_mk (j := (xm_i h3 δ 7)) (xs_D hS) hg5))) ((xIsC_mk (j := (xm_i h3 δ 7)) (xs_D hS) hg5).ge) hf (fun h51 e52 hf => ?_)
                have hS := xS_si hS e52
                refine xw_G (pc' := 178) (st' := [.ref (δ + 10 + Int32.toNatClampNeg (xm_i h3 δ 7))]) rfl rfl trivial ?_
                refine xw_G (pc' := 179) (st' := [.int (0 : Int32), .ref (δ + 10 + Int32.toNatClampNeg (xm_i h3 δ 7))]) rfl rfl trivial ?_
                refine xp_i rfl (xkf (xsC hS (xIsC_mk (j := (xm_i h3 δ 7)) (xs_D hS) hg5))) ((xIsC_mk (j := (xm_i h3 δ 7)) (xs_D hS) hg5).ge) hf (fun h53 e54 hf => ?_)
                have hS := xS_si hS e54
                refine xw_G (pc' := 183) (st' := [.ref 161]) rfl rfl trivial ?_
                refine xw_gr rfl (xkf (xs_k hS rfl rfl : xm_k h53 161 = (6, 0))) (xs_del hS) ?_
                refine xw_G (pc' := 187) (st' := [.ref δ, .ref δ]) rfl rfl rfl ?_
                refine xw_G (pc' := 190) (st' := [.int (xm_i h53 δ 7), .ref δ]) rfl rfl (xkf (xsR0 hS (xs_D hS))) ?_
                refine xw_G (pc' := 191) (st' := [.int (1 : Int32), .int (xm_i h53 δ 7), .ref δ]) rfl rfl trivial ?_
                refine xw_G (pc' := 192) (st' := [.int ((xm_i h53 δ 7) + (1 : Int32)), .ref δ]) rfl rfl trivial ?_
                refine xp_i rfl (xkf (xsR0 hS (xs_D hS))) ((xs_D hS).ge 0) hf (fun h55 e56 hf => ?_)
                have hS := xS_si hS e56
                refine xw_G (pc' := 196) (st' := [.ref 161]) rfl rfl trivial ?_
                refine xb_e hf (fun v57 h58 e59 hf => ?_)
                refine xw_V (v := some (.int v57)) rfl rfl (xkf (xs_k hS rfl rfl : xm_k h55 161 = (6, 0))) (Nat.le_of_ble_eq_true rfl) (Nat.le_of_ble_eq_true rfl) (xm_Rn_le (Nat.le_of_ble_eq_true rfl) (t_X5_takeSemicolon  hS e59).1) ?_
                have hS := (t_X5_takeSemicolon  hS e59).2
                show xm_W _ _ _ 199 _ [.int v57] _
                refine xg_e hf (fun hg60 hf => ?_)
                exact xr_i (inj := xji) rfl rfl (xnar_z hg60).1 rfl hf hQ hS
  · refine xw_G (pc' := 13) (st' := [.ref 161]) rfl rfl trivial ?_
    refine xw_G (pc' := 14) (st' := [.int (5 : Int32), .ref 161]) rfl rfl trivial ?_
    refine xb_e hf (fun v61 h62 e63 hf => ?_)
    refine xw_V (v := some (.int v61)) rfl rfl (xkf (xs_k hS rfl rfl : xm_k h 161 = (6, 0))) (Nat.le_of_ble_eq_true rfl) (Nat.le_of_ble_eq_true rfl) (xm_Rn_le (Nat.le_of_ble_eq_true rfl) (t_X5_fail  hS e63).1) ?_
    have hS := (t_X5_fail  hS e63).2
    show xm_W _ _ _ 17 _ [.int v61] _
    refine xg_e hf (fun hg64 hf => ?_)
    exact xr_i (inj := xji) rfl rfl (xnar_z hg64).1 rfl hf hQ hS
