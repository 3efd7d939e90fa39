/-! printed by wip/gen/gen23.py: methods as functions of their arguments and the heap -/

theorem tc_L_law_0 {N ρ δ : Nat} {Q : xm_O → xm_H → Prop} {w : Int32 × xm_H} (hQ : (∃ ρ δ, xS ρ δ w.2) → Q (xji w.1) w.2) {rec : Int32 → xm_H → Option (Int32 × xm_H)} (ih : ∀ (c5 : Int32) (h : xm_H), (∃ ρ δ, xS ρ δ h) → rec c5 h = some w → xm_W (xm_Rn xX 60) xM_L_law Q 28 [some (.ref 0), some (.ref 160), some (.ref 302), some (.ref 316), some (.ref 317), some (.int c5), none, none, none] [] h) : ∀ (c5 : Int32) (h : xm_H), xS ρ δ h → f_L_law_c0 N ρ δ rec c5 h = some w → xm_W (xm_Rn xX 60) xM_L_law Q 252 [some (.ref 0), some (.ref 160), some (.ref 302), some (.ref 316), some (.ref 317), some (.int c5), none, none, none] [] h := by
  intro c5 h hS hf
  unfold f_L_law_c0 at hf
  refine xw_G (pc' := 253) (st' := [.ref 160]) rfl rfl trivial ?_
  refine xw_G (pc' := 254) (st' := [.ref 0, .ref 160]) rfl rfl trivial ?_
  refine xw_G (pc' := 256) (st' := [.int c5, .ref 0, .ref 160]) rfl rfl trivial ?_
  refine xw_G (pc' := 257) (st' := [.int (1 : Int32), .int c5, .ref 0, .ref 160]) rfl rfl trivial ?_
  refine xw_G (pc' := 258) (st' := [.int (c5 + (1 : Int32)), .ref 0, .ref 160]) rfl rfl trivial ?_
  refine xg_e hf (fun hg1 hf => ?_)
  refine xg_e hf (fun hg2 hf => ?_)
  refine xa_ld (t := 100) (τ := 0) (v := .int (xm_i h 0 (Int32.toNatClampNeg (c5 + (1 : Int32))))) rfl rfl hg1 rfl hg2 rfl ?_
  refine xw_G (pc' := 260) (st' := [.ref 0, .int (xm_i h 0 (Int32.toNatClampNeg (c5 + (1 : Int32)))), .ref 160]) rfl rfl trivial ?_
  refine xw_G (pc' := 262) (st' := [.int c5, .ref 0, .int (xm_i h 0 (Int32.toNatClampNeg (c5 + (1 : Int32)))), .ref 160]) rfl rfl trivial ?_
  refine xw_G (pc' := 263) (st' := [.int (2 : Int32), .int c5, .ref 0, .int (xm_i h 0 (Int32.toNatClampNeg (c5 + (1 : Int32)))), .ref 160]) rfl rfl trivial ?_
  refine xw_G (pc' := 264) (st' := [.int (c5 + (2 : Int32)), .ref 0, .int (xm_i h 0 (Int32.toNatClampNeg (c5 + (1 : Int32)))), .ref 160]) rfl rfl trivial ?_
  refine xg_e hf (fun hg3 hf => ?_)
  refine xa_ld (t := 100) (τ := 0) (v := .int (xm_i h 0 (Int32.toNatClampNeg (c5 + (2 : Int32))))) rfl rfl hg1 rfl hg3 rfl ?_
  refine xw_G (pc' := 266) (st' := [.ref 0, .int (xm_i h 0 (Int32.toNatClampNeg (c5 + (2 : Int32)))), .int (xm_i h 0 (Int32.toNatClampNeg (c5 + (1 : Int32)))), .ref 160]) rfl rfl trivial ?_
  refine xw_G (pc' := 268) (st' := [.int c5, .ref 0, .int (xm_i h 0 (Int32.toNatClampNeg (c5 + (2 : Int32)))), .int (xm_i h 0 (Int32.toNatClampNeg (c5 + (1 : Int32)))), .ref 160]) rfl rfl trivial ?_
  refine xw_G (pc' := 269) (st' := [.int (3 : Int32), .int c5, .ref 0, .int (xm_i h 0 (Int32.toNatClampNeg (c5 + (2 : Int32)))), .int (xm_i h 0 (Int32.toNatClampNeg (c5 + (1 : Int32)))), .ref 160]) rfl rfl trivial ?_
  refine xw_G (pc' := 270) (st' := [.int (c5 + (3 : Int32)), .ref 0, .int (xm_i h 0 (Int32.toNatClampNeg (c5 + (2 : Int32)))), .int (xm_i h 0 (Int32.toNatClampNeg (c5 + (1 : Int32)))), .ref 160]) rfl rfl trivial ?_
  refine xg_e hf (fun hg4 hf => ?_)
  refine xa_ld (t := 100) (τ := 0) (v := .int (xm_i h 0 (Int32.toNatClampNeg (c5 + (3 : Int32))))) rfl rfl hg1 rfl hg4 rfl ?_
  refine xw_G (pc' := 272) (st' := [.ref 0, .int (xm_i h 0 (Int32.toNatClampNeg (c5 + (3 : Int32)))), .int (xm_i h 0 (Int32.toNatClampNeg (c5 + (2 : Int32)))), .int (xm_i h 0 (Int32.toNatClampNeg (c5 + (1 : Int32)))), .ref 160]) rfl rfl trivial ?_
  refine xw_G (pc' := 274) (st' := [.int c5, .ref 0, .int (xm_i h 0 (Int32.toNatClampNeg (c5 + (3 : Int32)))), .int (xm_i h 0 (Int32.toNatClampNeg (c5 + (2 : Int32)))), .int (xm_i h 0 (Int32.toNatClampNeg (c5 + (1 : Int32)))), .ref 160]) rfl rfl trivial ?_
  refine xw_G (pc' := 275) (st' := [.int (4 : Int32), .int c5, .ref 0, .int (xm_i h 0 (Int32.toNatClampNeg (c5 + (3 : Int32)))), .int (xm_i h 0 (Int32.toNatClampNeg (c5 + (2 : Int32)))), .int (xm_i h 0 (Int32.toNatClampNeg (c5 + (1 : Int32)))), .ref 160]) rfl rfl trivial ?_
  refine xw_G (pc' := 276) (st' := [.int (c5 + (4 : Int32)), .ref 0, .int (xm_i h 0 (Int32.toNatClampNeg (c5 + (3 : Int32)))), .int (xm_i h 0 (Int32.toNatClampNeg (c5 + (2 : Int32)))), .int (xm_i h 0 (Int32.toNatClampNeg (c5 + (1 : Int32)))), .ref 160]) rfl rfl trivial ?_
  refine xg_e hf (fun hg5 hf => ?_)
  refine xa_ld (t := 100) (τ := 0) (v := .int (xm_i h 0 (Int32.toNatClampNeg (c5 + (4 : Int32))))) rfl rfl hg1 rfl hg5 rfl ?_
  refine xw_G (pc' := 278) (st' := [.ref 0, .int (xm_i h 0 (Int32.toNatClampNeg (c5 + (4 : Int32)))), .int (xm_i h 0 (Int32.toNatClampNeg (c5 + (3 : Int32)))), .int (xm_i h 0 (Int32.toNatClampNeg (c5 + (2 : Int32)))), .int (xm_i h 0 (Int32.toNatClampNeg (c5 + (1 : Int32)))), .ref 160]) rfl rfl trivial ?_
  refine xw_G (pc' := 280) (st' := [.int c5, .ref 0, .int (xm_i h 0 (Int32.toNatClampNeg (c5 + (4 : Int32)))), .int (xm_i h 0 (Int32.toNatClampNeg (c5 + (3 : Int32)))), .int (xm_i h 0 (Int32.toNatClampNeg (c5 + (2 : Int32)))), .int (xm_i h 0 (Int32.toNatClampNeg (c5 + (1 : Int32)))), .ref 160]) rfl rfl trivial ?_
  refine xw_G (pc' := 281) (st' := [.int (5 : Int32), .int c5, .ref 0, .int (xm_i h 0 (Int32.toNatClampNeg (c5 + (4 : Int32)))), .int (xm_i h 0 (Int32.toNatClampNeg (c5 + (3 : Int32)))), .int (xm_i h 0 (Int32.toNatClampNeg (c5 + (2 : Int32)))), .int (xm_i h 0 (Int32.toNatClampNeg (c5 + (1 : Int32)))), .ref 160]) rfl rfl trivial ?_
  refine xw_G (pc' := 282) (st' := [.int (c5 + (5 : Int32)), .ref 0, .int (xm_i h 0 (Int32.toNatClampNeg (c5 + (4 : Int32)))), .int (xm_i h 0 (Int32.toNatClampNeg (c5 + (3 : Int32)))), .int (xm_i h 0 (Int32.toNatClampNeg (c5 + (2 : Int32)))), .int (xm_i h 0 (Int32.toNatClampNeg (c5 + (1 : Int32)))), .ref 160]) rfl rfl trivial ?_
  refine xg_e hf (fun hg6 hf => ?_)
  refine xa_ld (t := 100) (τ := 0) (v := .int (xm_i h 0 (Int32.toNatClampNeg (c5 + (5 : Int32))))) rfl rfl hg1 rfl hg6 rfl ?_
  refine xb_e hf (fun v7 h8 e9 hf => ?_)
  refine xw_V (v := some (.int v7)) rfl rfl (xkf (xs_k hS rfl rfl : xm_k h 160 = (0, 0))) (Nat.le_of_ble_eq_true rfl) (Nat.le_of_ble_eq_true rfl) (xm_Rn_le (Nat.le_of_ble_eq_true rfl) (t_X10_feed  hS e9).1) ?_
  have hS := (t_X10_feed  hS e9).2
  show xm_W _ _ _ 286 _ [.int v7] _
  refine xw_G (pc' := 287) (st' := [.ref 302, .int v7]) rfl rfl trivial ?_
  refine xw_G (pc' := 288) (st' := [.ref 0, .ref 302, .int v7]) rfl rfl trivial ?_
  refine xw_G (pc' := 290) (st' := [.int c5, .ref 0, .ref 302, .int v7]) rfl rfl trivial ?_
  refine xw_G (pc' := 291) (st' := [.int (1 : Int32), .int c5, .ref 0, .ref 302, .int v7]) rfl rfl trivial ?_
  refine xw_G (pc' := 292) (st' := [.int (c5 + (1 : Int32)), .ref 0, .ref 302, .int v7]) rfl rfl trivial ?_
  refine xg_e hf (fun hg10 hf => ?_)
  refine xg_e hf (fun hg11 hf => ?_)
  refine xa_ld (t := 100) (τ := 0) (v := .int (xm_i h8 0 (Int32.toNatClampNeg (c5 + (1 : Int32))))) rfl rfl hg10 rfl hg11 rfl ?_
  refine xw_G (pc' := 294) (st' := [.ref 0, .int (xm_i h8 0 (Int32.toNatClampNeg (c5 + (1 : Int32)))), .ref 302, .int v7]) rfl rfl trivial ?_
  refine xw_G (pc' := 296) (st' := [.int c5, .ref 0, .int (xm_i h8 0 (Int32.toNatClampNeg (c5 + (1 : Int32)))), .ref 302, .int v7]) rfl rfl trivial ?_
  refine xw_G (pc' := 297) (st' := [.int (2 : Int32), .int c5, .ref 0, .int (xm_i h8 0 (Int32.toNatClampNeg (c5 + (1 : Int32)))), .ref 302, .int v7]) rfl rfl trivial ?_
  refine xw_G (pc' := 298) (st' := [.int (c5 + (2 : Int32)), .ref 0, .int (xm_i h8 0 (Int32.toNatClampNeg (c5 + (1 : Int32)))), .ref 302, .int v7]) rfl rfl trivial ?_
  refine xg_e hf (fun hg12 hf => ?_)
  refine xa_ld (t := 100) (τ := 0) (v := .int (xm_i h8 0 (Int32.toNatClampNeg (c5 + (2 : Int32))))) rfl rfl hg10 rfl hg12 rfl ?_
  refine xw_G (pc' := 300) (st' := [.ref 0, .int (xm_i h8 0 (Int32.toNatClampNeg (c5 + (2 : Int32)))), .int (xm_i h8 0 (Int32.toNatClampNeg (c5 + (1 : Int32)))), .ref 302, .int v7]) rfl rfl trivial ?_
  refine xw_G (pc' := 302) (st' := [.int c5, .ref 0, .int (xm_i h8 0 (Int32.toNatClampNeg (c5 + (2 : Int32)))), .int (xm_i h8 0 (Int32.toNatClampNeg (c5 + (1 : Int32)))), .ref 302, .int v7]) rfl rfl trivial ?_
  refine xw_G (pc' := 303) (st' := [.int (3 : Int32), .int c5, .ref 0, .int (xm_i h8 0 (Int32.toNatClampNeg (c5 + (2 : Int32)))), .int (xm_i h8 0 (Int32.toNatClampNeg (c5 + (1 : Int32)))), .ref 302, .int v7]) rfl rfl trivial ?_
  refine xw_G (pc' := 304) (st' := [.int (c5 + (3 : Int32)), .ref 0, .int (xm_i h8 0 (Int32.toNatClampNeg (c5 + (2 : Int32)))), .int (xm_i h8 0 (Int32.toNatClampNeg (c5 + (1 : Int32)))), .ref 302, .int v7]) rfl rfl trivial ?_
  refine xg_e hf (fun hg13 hf => ?_)
  refine xa_ld (t := 100) (τ := 0) (v := .int (xm_i h8 0 (Int32.toNatClampNeg (c5 + (3 : Int32))))) rfl rfl hg10 rfl hg13 rfl ?_
  refine xw_G (pc' := 306) (st' := [.ref 0, .int (xm_i h8 0 (Int32.toNatClampNeg (c5 + (3 : Int32)))), .int (xm_i h8 0 (Int32.toNatClampNeg (c5 + (2 : Int32)))), .int (xm_i h8 0 (Int32.toNatClampNeg (c5 + (1 : Int32)))), .ref 302, .int v7]) rfl rfl trivial ?_
  refine xw_G (pc' := 308) (st' := [.int c5, .ref 0, .int (xm_i h8 0 (Int32.toNatClampNeg (c5 + (3 : Int32)))), .int (xm_i h8 0 (Int32.toNatClampNeg (c5 + (2 : Int32)))), .int (xm_i h8 0 (Int32.toNatClampNeg (c5 + (1 : Int32)))), .ref 302, .int v7]) rfl rfl trivial ?_
  refine xw_G (pc' := 309) (st' := [.int (4 : Int32), .int c5, .ref 0, .int (xm_i h8 0 (Int32.toNatClampNeg (c5 + (3 : Int32)))), .int (xm_i h8 0 (Int32.toNatClampNeg (c5 + (2 : Int32)))), .int (xm_i h8 0 (Int32.toNatClampNeg (c5 + (1 : Int32)))), .ref 302, .int v7]) rfl rfl trivial ?_
  refine xw_G (pc' := 310) (st' := [.int (c5 + (4 : Int32)), .ref 0, .int (xm_i h8 0 (Int32.toNatClampNeg (c5 + (3 : Int32)))), .int (xm_i h8 0 (Int32.toNatClampNeg (c5 + (2 : Int32)))), .int (xm_i h8 0 (Int32.toNatClampNeg (c5 + (1 : Int32)))), .ref 302, .int v7]) rfl rfl trivial ?_
  refine xg_e hf (fun hg14 hf => ?_)
  refine xa_ld (t := 100) (τ := 0) (v := .int (xm_i h8 0 (Int32.toNatClampNeg (c5 + (4 : Int32))))) rfl rfl hg10 rfl hg14 rfl ?_
  refine xw_G (pc' := 312) (st' := [.ref 0, .int (xm_i h8 0 (Int32.toNatClampNeg (c5 + (4 : Int32)))), .int (xm_i h8 0 (Int32.toNatClampNeg (c5 + (3 : Int32)))), .int (xm_i h8 0 (Int32.toNatClampNeg (c5 + (2 : Int32)))), .int (xm_i h8 0 (Int32.toNatClampNeg (c5 + (1 : Int32)))), .ref 302, .int v7]) rfl rfl trivial ?_
  refine xw_G (pc' := 314) (st' := [.int c5, .ref 0, .int (xm_i h8 0 (Int32.toNatClampNeg (c5 + (4 : Int32)))), .int (xm_i h8 0 (Int32.toNatClampNeg (c5 + (3 : Int32)))), .int (xm_i h8 0 (Int32.toNatClampNeg (c5 + (2 : Int32)))), .int (xm_i h8 0 (Int32.toNatClampNeg (c5 + (1 : Int32)))), .ref 302, .int v7]) rfl rfl trivial ?_
  refine xw_G (pc' := 315) (st' := [.int (5 : Int32), .int c5, .ref 0, .int (xm_i h8 0 (Int32.toNatClampNeg (c5 + (4 : Int32)))), .int (xm_i h8 0 (Int32.toNatClampNeg (c5 + (3 : Int32)))), .int (xm_i h8 0 (Int32.toNatClampNeg (c5 + (2 : Int32)))), .int (xm_i h8 0 (Int32.toNatClampNeg (c5 + (1 : Int32)))), .ref 302, .int v7]) rfl rfl trivial ?_
  refine xw_G (pc' := 316) (st' := [.int (c5 + (5 : Int32)), .ref 0, .int (xm_i h8 0 (Int32.toNatClampNeg (c5 + (4 : Int32)))), .int (xm_i h8 0 (Int32.toNatClampNeg (c5 + (3 : Int32)))), .int (xm_i h8 0 (Int32.toNatClampNeg (c5 + (2 : Int32)))), .int (xm_i h8 0 (Int32.toNatClampNeg (c5 + (1 : Int32)))), .ref 302, .int v7]) rfl rfl trivial ?_
  refine xg_e hf (fun hg15 hf => ?_)
  refine xa_ld (t := 100) (τ := 0) (v := .int (xm_i h8 0 (Int32.toNatClampNeg (c5 + (5 : Int32))))) rfl rfl hg10 rfl hg15 rfl ?_
  refine xb_e hf (fun v16 h17 e18 hf => ?_)
  refine xw_V (v := some (.int v16)) rfl rfl (xkf (xs_k hS rfl rfl : xm_k h8 302 = (11, 0))) (Nat.le_of_ble_eq_true rfl) (Nat.le_of_ble_eq_true rfl) (xm_Rn_le (Nat.le_of_ble_eq_true rfl) (t_X11_feed  hS e18).1) ?_
  have hS := (t_X11_feed  hS e18).2
  show xm_W _ _ _ 320 _ [.int v16, .int v7] _
  refine xj_ic_eq rfl hf (fun hc19 hf => ?_) (fun hc19 hf => ?_)
  · refine xw_G (pc' := 2879) (ls' := [some (.ref 0), some (.ref 160), some (.ref 302), some (.ref 316), some (.ref 317), some (.int (c5 + (6 : Int32))), none, none, none]) (st' := []) rfl rfl (Nat.le_of_ble_eq_true rfl) ?_
    refine xw_G (pc' := 28) (st' := []) rfl rfl trivial ?_
    refine xw_M rfl rfl ?_
    exact ih _ _ ⟨_, _, hS⟩ hf
  · refine xw_G (pc' := 324) (st' := [.int (0 : Int32)]) rfl rfl trivial ?_
    exact xr_i (inj := xji) (φ := fun h => ∃ ρ δ, xS ρ δ h) rfl rfl rfl rfl hf hQ ⟨_, _, hS⟩

theorem tc_L_law_1 {N ρ δ : Nat} {Q : xm_O → xm_H → Prop} {w : Int32 × xm_H} (hQ : (∃ ρ δ, xS ρ δ w.2) → Q (xji w.1) w.2) {rec : Int32 → xm_H → Option (Int32 × xm_H)} (ih : ∀ (c5 : Int32) (h : xm_H), (∃ ρ δ, xS ρ δ h) → rec c5 h = some w → xm_W (xm_Rn xX 60) xM_L_law Q 28 [some (.ref 0), some (.ref 160), some (.ref 302), some (.ref 316), some (.ref 317), some (.int c5), none, none, none] [] h) : ∀ (c5 : Int32) (h : xm_H), xS ρ δ h → f_L_law_c1 N ρ δ rec c5 h = some w → xm_W (xm_Rn xX 60) xM_L_law Q 325 [some (.ref 0), some (.ref 160), some (.ref 302), some (.ref 316), some (.ref 317), some (.int c5), none, none, none] [] h := by
  intro c5 h hS hf
  unfold f_L_law_c1 at hf
  refine xw_G (pc' := 326) (st' := [.ref 160]) rfl rfl trivial ?_
  refine xw_G (pc' := 327) (st' := [.ref 0, .ref 160]) rfl rfl trivial ?_
  refine xw_G (pc' := 329) (st' := [.int c5, .ref 0, .ref 160]) rfl rfl trivial ?_
  refine xw_G (pc' := 330) (st' := [.int (1 : Int32), .int c5, .ref 0, .ref 160]) rfl rfl trivial ?_
  refine xw_G (pc' := 331) (st' := [.int (c5 + (1 : Int32)), .ref 0, .ref 160]) rfl rfl trivial ?_
  refine xg_e hf (fun hg1 hf => ?_)
  refine xg_e hf (fun hg2 hf => ?_)
  refine xa_ld (t := 100) (τ := 0) (v := .int (xm_i h 0 (Int32.toNatClampNeg (c5 + (1 : Int32))))) rfl rfl hg1 rfl hg2 rfl ?_
  refine xw_G (pc' := 333) (st' := [.ref 316, .int (xm_i h 0 (Int32.toNatClampNeg (c5 + (1 : Int32)))), .ref 160]) rfl rfl trivial ?_
  refine xb_e hf (fun v3 h4 e5 hf => ?_)
  refine xw_S10 (v := some (.int v3)) rfl (Nat.le_of_ble_eq_true rfl) (Nat.le_of_ble_eq_true rfl) (xm_Rn_le (Nat.le_of_ble_eq_true rfl) (t_L_load  hS e5).1) ?_
  obtain ⟨ρ1, δ1, hS⟩ := (t_L_load  hS e5).2
  show xm_W _ _ _ 336 _ [.int v3] _
  refine xw_G (pc' := 338) (ls' := [some (.ref 0), some (.ref 160), some (.ref 302), some (.ref 316), some (.ref 317), some (.int c5), some (.int v3), none, none]) (st' := []) rfl rfl (Nat.le_of_ble_eq_true rfl) ?_
  refine xw_G (pc' := 339) (st' := [.ref 302]) rfl rfl trivial ?_
  refine xw_G (pc' := 340) (st' := [.ref 0, .ref 302]) rfl rfl trivial ?_
  refine xw_G (pc' := 342) (st' := [.int c5, .ref 0, .ref 302]) rfl rfl trivial ?_
  refine xw_G (pc' := 343) (st' := [.int (1 : Int32), .int c5, .ref 0, .ref 302]) rfl rfl trivial ?_
  refine xw_G (pc' := 344) (st' := [.int (c5 + (1 : Int32)), .ref 0, .ref 302]) rfl rfl trivial ?_
  refine xg_e hf (fun hg6 hf => ?_)
  refine xg_e hf (fun hg7 hf => ?_)
  refine xa_ld (t := 100) (τ := 0) (v := .int (xm_i h4 0 (Int32.toNatClampNeg (c5 + (1 : Int32))))) rfl rfl hg6 rfl hg7 rfl ?_
  refine xb_e hf (fun v8 h9 e10 hf => ?_)
  refine xw_V (v := some (.int v8)) rfl rfl (xkf (xs_k hS rfl rfl : xm_k h4 302 = (11, 0))) (Nat.le_of_ble_eq_true rfl) (Nat.le_of_ble_eq_true rfl) (xm_Rn_le (Nat.le_of_ble_eq_true rfl) (t_X11_load  hS e10).1) ?_
  have hS := (t_X11_load  hS e10).2
  show xm_W _ _ _ 348 _ [.int v8] _
  refine xw_G (pc' := 350) (ls' := [some (.ref 0), some (.ref 160), some (.ref 302), some (.ref 316), some (.ref 317), some (.int c5), some (.int v3), some (.int v8), none]) (st' := []) rfl rfl (Nat.le_of_ble_eq_true rfl) ?_
  refine xw_G (pc' := 351) (st' := [.ref 302]) rfl rfl trivial ?_
  refine xb_e hf (fun v11 h12 e13 hf => ?_)
  refine xw_V (v := some (.int v11)) rfl rfl (xkf (xs_k hS rfl rfl : xm_k h9 302 = (11, 0))) (Nat.le_of_ble_eq_true rfl) (Nat.le_of_ble_eq_true rfl) (xm_Rn_le (Nat.le_of_ble_eq_true rfl) (t_X11_thrown  hS e13).1) ?_
  have hS := (t_X11_thrown  hS e13).2
  show xm_W _ _ _ 354 _ [.int v11] _
  refine xw_G (pc' := 356) (st' := [.int v3, .int v11]) rfl rfl trivial ?_
  refine xj_ic_eq rfl hf (fun hc14 hf => ?_) (fun hc14 hf => ?_)
  · refine xw_G (pc' := 363) (st' := [.int v3]) rfl rfl trivial ?_
    refine xj_if_ne rfl hf (fun hc15 hf => ?_) (fun hc15 hf => ?_)
    · refine xw_G (pc' := 367) (st' := [.ref 316]) rfl rfl trivial ?_
      refine xw_G (pc' := 368) (st' := [.int (0 : Int32), .ref 316]) rfl rfl trivial ?_
      refine xa_ld (t := 104) (τ := 4) (v := .long (xm_l h12 316 0)) rfl rfl (xkf (xs_k hS rfl rfl : xm_k h12 316 = (104, 1))) (xkn (xs_k hS rfl rfl : xm_k h12 316 = (104, 1))) (by decide : xin (0 : Int32) 1) rfl ?_
      refine xw_G (pc' := 371) (st' := [.int v8, .long (xm_l h12 316 0)]) rfl rfl trivial ?_
      refine xw_G (pc' := 372) (st' := [.long (Int32.toInt64 v8), .long (xm_l h12 316 0)]) rfl rfl trivial ?_
      refine xw_G (pc' := 373) (st' := [.int (lg_cmp (xm_l h12 316 0) (Int32.toInt64 v8))]) rfl rfl trivial ?_
      refine xj_if_eq rfl hf (fun hc16 hf => ?_) (fun hc16 hf => ?_)
      · refine xw_G (pc' := 2876) (st' := []) rfl rfl trivial ?_
        refine xw_G (pc' := 2879) (ls' := [some (.ref 0), some (.ref 160), some (.ref 302), some (.ref 316), some (.ref 317), some (.int (c5 + (6 : Int32))), some (.int v3), some (.int v8), none]) (st' := []) rfl rfl (Nat.le_of_ble_eq_true rfl) ?_
        refine xw_G (pc' := 28) (st' := []) rfl rfl trivial ?_
        refine xw_M rfl rfl ?_
        exact ih _ _ ⟨_, _, hS⟩ hf
      · refine xw_G (pc' := 377) (st' := [.int (0 : Int32)]) rfl rfl trivial ?_
        exact xr_i (inj := xji) (φ := fun h => ∃ ρ δ, xS ρ δ h) rfl rfl rfl rfl hf hQ ⟨_, _, hS⟩
    · refine xw_G (pc' := 2876) (st' := []) rfl rfl trivial ?_
      refine xw_G (pc' := 2879) (ls' := [some (.ref 0), some (.ref 160), some (.ref 302), some (.ref 316), some (.ref 317), some (.int (c5 + (6 : Int32))), some (.int v3), some (.int v8), none]) (st' := []) rfl rfl (Nat.le_of_ble_eq_true rfl) ?_
      refine xw_G (pc' := 28) (st' := []) rfl rfl trivial ?_
      refine xw_M rfl rfl ?_
      exact ih _ _ ⟨_, _, hS⟩ hf
  · refine xw_G (pc' := 360) (st' := [.int (0 : Int32)]) rfl rfl trivial ?_
    exact xr_i (inj := xji) (φ := fun h => ∃ ρ δ, xS ρ δ h) rfl rfl rfl rfl hf hQ ⟨_, _, hS⟩

theorem tc_L_law_2 {N ρ δ : Nat} {Q : xm_O → xm_H → Prop} {w : Int32 × xm_H} (hQ : (∃ ρ δ, xS ρ δ w.2) → Q (xji w.1) w.2) {rec : Int32 → xm_H → Option (Int32 × xm_H)} (ih : ∀ (c5 : Int32) (h : xm_H), (∃ ρ δ, xS ρ δ h) → rec c5 h = some w → xm_W (xm_Rn xX 60) xM_L_law Q 28 [some (.ref 0), some (.ref 160), some (.ref 302), some (.ref 316), some (.ref 317), some (.int c5), none, none, none] [] h) : ∀ (c5 : Int32) (h : xm_H), xS ρ δ h → f_L_law_c2 N ρ δ rec c5 h = some w → xm_W (xm_Rn xX 60) xM_L_law Q 381 [some (.ref 0), some (.ref 160), some (.ref 302), some (.ref 316), some (.ref 317), some (.int c5), none, none, none] [] h := by
  intro c5 h hS hf
  unfold f_L_law_c2 at hf
  refine xw_G (pc' := 382) (st' := [.ref 160]) rfl rfl trivial ?_
  refine xb_e hf (fun v1 h2 e3 hf => ?_)
  refine xw_V (v := some (.int v1)) rfl rfl (xkf (xs_k hS rfl rfl : xm_k h 160 = (0, 0))) (Nat.le_of_ble_eq_true rfl) (Nat.le_of_ble_eq_true rfl) (xm_Rn_le (Nat.le_of_ble_eq_true rfl) (t_X10_errorKind  hS e3).1) ?_
  have hS := (t_X10_errorKind  hS e3).2
  show xm_W _ _ _ 385 _ [.int v1] _
  refine xw_G (pc' := 386) (st' := [.ref 302, .int v1]) rfl rfl trivial ?_
  refine xb_e hf (fun v4 h5 e6 hf => ?_)
  refine xw_V (v := some (.int v4)) rfl rfl (xkf (xs_k hS rfl rfl : xm_k h2 302 = (11, 0))) (Nat.le_of_ble_eq_true rfl) (Nat.le_of_ble_eq_true rfl) (xm_Rn_le (Nat.le_of_ble_eq_true rfl) (t_X11_errorKind  hS e6).1) ?_
  have hS := (t_X11_errorKind  hS e6).2
  show xm_W _ _ _ 389 _ [.int v4, .int v1] _
  refine xj_ic_eq rfl hf (fun hc7 hf => ?_) (fun hc7 hf => ?_)
  · refine xw_G (pc' := 2879) (ls' := [some (.ref 0), some (.ref 160), some (.ref 302), some (.ref 316), some (.ref 317), some (.int (c5 + (6 : Int32))), none, none, none]) (st' := []) rfl rfl (Nat.le_of_ble_eq_true rfl) ?_
    refine xw_G (pc' := 28) (st' := []) rfl rfl trivial ?_
    refine xw_M rfl rfl ?_
    exact ih _ _ ⟨_, _, hS⟩ hf
  · refine xw_G (pc' := 393) (st' := [.int (0 : Int32)]) rfl rfl trivial ?_
    exact xr_i (inj := xji) (φ := fun h => ∃ ρ δ, xS ρ δ h) rfl rfl rfl rfl hf hQ ⟨_, _, hS⟩

theorem tc_L_law_3 {N ρ δ : Nat} {Q : xm_O → xm_H → Prop} {w : Int32 × xm_H} (hQ : (∃ ρ δ, xS ρ δ w.2) → Q (xji w.1) w.2) {rec : Int32 → xm_H → Option (Int32 × xm_H)} (ih : ∀ (c5 : Int32) (h : xm_H), (∃ ρ δ, xS ρ δ h) → rec c5 h = some w → xm_W (xm_Rn xX 60) xM_L_law Q 28 [some (.ref 0), some (.ref 160), some (.ref 302), some (.ref 316), some (.ref 317), some (.int c5), none, none, none] [] h) : ∀ (c5 : Int32) (h : xm_H), xS ρ δ h → f_L_law_c3 N ρ δ rec c5 h = some w → xm_W (xm_Rn xX 60) xM_L_law Q 394 [some (.ref 0), some (.ref 160), some (.ref 302), some (.ref 316), some (.ref 317), some (.int c5), none, none, none] [] h := by
  intro c5 h hS hf
  unfold f_L_law_c3 at hf
  refine xw_G (pc' := 395) (st' := [.ref 160]) rfl rfl trivial ?_
  refine xb_e hf (fun v1 h2 e3 hf => ?_)
  refine xw_V (v := some (.int v1)) rfl rfl (xkf (xs_k hS rfl rfl : xm_k h 160 = (0, 0))) (Nat.le_of_ble_eq_true rfl) (Nat.le_of_ble_eq_true rfl) (xm_Rn_le (Nat.le_of_ble_eq_true rfl) (t_X10_errorPosition  hS e3).1) ?_
  have hS := (t_X10_errorPosition  hS e3).2
  show xm_W _ _ _ 398 _ [.int v1] _
  refine xw_G (pc' := 399) (st' := [.ref 302, .int v1]) rfl rfl trivial ?_
  refine xb_e hf (fun v4 h5 e6 hf => ?_)
  refine xw_V (v := some (.int v4)) rfl rfl (xkf (xs_k hS rfl rfl : xm_k h2 302 = (11, 0))) (Nat.le_of_ble_eq_true rfl) (Nat.le_of_ble_eq_true rfl) (xm_Rn_le (Nat.le_of_ble_eq_true rfl) (t_X11_errorPosition  hS e6).1) ?_
  have hS := (t_X11_errorPosition  hS e6).2
  show xm_W _ _ _ 402 _ [.int v4, .int v1] _
  refine xj_ic_eq rfl hf (fun hc7 hf => ?_) (fun hc7 hf => ?_)
  · refine xw_G (pc' := 2879) (ls' := [some (.ref 0), some (.ref 160), some (.ref 302), some (.ref 316), some (.ref 317), some (.int (c5 + (6 : Int32))), none, none, none]) (st' := []) rfl rfl (Nat.le_of_ble_eq_true rfl) ?_
    refine xw_G (pc' := 28) (st' := []) rfl rfl trivial ?_
    refine xw_M rfl rfl ?_
    exact ih _ _ ⟨_, _, hS⟩ hf
  · refine xw_G (pc' := 406) (st' := [.int (0 : Int32)]) rfl rfl trivial ?_
    exact xr_i (inj := xji) (φ := fun h => ∃ ρ δ, xS ρ δ h) rfl rfl rfl rfl hf hQ ⟨_, _, hS⟩

theorem tc_L_law_4 {N ρ δ : Nat} {Q : xm_O → xm_H → Prop} {w : Int32 × xm_H} (hQ : (∃ ρ δ, xS ρ δ w.2) → Q (xji w.1) w.2) {rec : Int32 → xm_H → Option (Int32 × xm_H)} (ih : ∀ (c5 : Int32) (h : xm_H), (∃ ρ δ, xS ρ δ h) → rec c5 h = some w → xm_W (xm_Rn xX 60) xM_L_law Q 28 [some (.ref 0), some (.ref 160), some (.ref 302), some (.ref 316), some (.ref 317), some (.int c5), none, none, none] [] h) : ∀ (c5 : Int32) (h : xm_H), xS ρ δ h → f_L_law_c4 N ρ δ rec c5 h = some w → xm_W (xm_Rn xX 60) xM_L_law Q 407 [some (.ref 0), some (.ref 160), some (.ref 302), some (.ref 316), some (.ref 317), some (.int c5), none, none, none] [] h := by
  intro c5 h hS hf
  unfold f_L_law_c4 at hf
  refine xw_G (pc' := 408) (st' := [.ref 160]) rfl rfl trivial ?_
  refine xb_e hf (fun v1 h2 e3 hf => ?_)
  refine xw_V (v := some (.int v1)) rfl rfl (xkf (xs_k hS rfl rfl : xm_k h 160 = (0, 0))) (Nat.le_of_ble_eq_true rfl) (Nat.le_of_ble_eq_true rfl) (xm_Rn_le (Nat.le_of_ble_eq_true rfl) (t_X10_campaigns  hS e3).1) ?_
  have hS := (t_X10_campaigns  hS e3).2
  show xm_W _ _ _ 411 _ [.int v1] _
  refine xw_G (pc' := 412) (st' := [.ref 302, .int v1]) rfl rfl trivial ?_
  refine xb_e hf (fun v4 h5 e6 hf => ?_)
  refine xw_V (v := some (.int v4)) rfl rfl (xkf (xs_k hS rfl rfl : xm_k h2 302 = (11, 0))) (Nat.le_of_ble_eq_true rfl) (Nat.le_of_ble_eq_true rfl) (xm_Rn_le (Nat.le_of_ble_eq_true rfl) (t_X11_campaigns  hS e6).1) ?_
  have hS := (t_X11_campaigns  hS e6).2
  show xm_W _ _ _ 415 _ [.int v4, .int v1] _
  refine xj_ic_eq rfl hf (fun hc7 hf => ?_) (fun hc7 hf => ?_)
  · refine xw_G (pc' := 2879) (ls' := [some (.ref 0), some (.ref 160), some (.ref 302), some (.ref 316), some (.ref 317), some (.int (c5 + (6 : Int32))), none, none, none]) (st' := []) rfl rfl (Nat.le_of_ble_eq_true rfl) ?_
    refine xw_G (pc' := 28) (st' := []) rfl rfl trivial ?_
    refine xw_M rfl rfl ?_
    exact ih _ _ ⟨_, _, hS⟩ hf
  · refine xw_G (pc' := 419) (st' := [.int (0 : Int32)]) rfl rfl trivial ?_
    exact xr_i (inj := xji) (φ := fun h => ∃ ρ δ, xS ρ δ h) rfl rfl rfl rfl hf hQ ⟨_, _, hS⟩

theorem tc_L_law_5 {N ρ δ : Nat} {Q : xm_O → xm_H → Prop} {w : Int32 × xm_H} (hQ : (∃ ρ δ, xS ρ δ w.2) → Q (xji w.1) w.2) {rec : Int32 → xm_H → Option (Int32 × xm_H)} (ih : ∀ (c5 : Int32) (h : xm_H), (∃ ρ δ, xS ρ δ h) → rec c5 h = some w → xm_W (xm_Rn xX 60) xM_L_law Q 28 [some (.ref 0), some (.ref 160), some (.ref 302), some (.ref 316), some (.ref 317), some (.int c5), none, none, none] [] h) : ∀ (c5 : Int32) (h : xm_H), xS ρ δ h → f_L_law_c5 N ρ δ rec c5 h = some w → xm_W (xm_Rn xX 60) xM_L_law Q 420 [some (.ref 0), some (.ref 160), some (.ref 302), some (.ref 316), some (.ref 317), some (.int c5), none, none, none] [] h := by
  intro c5 h hS hf
  unfold f_L_law_c5 at hf
  refine xw_G (pc' := 421) (st' := [.ref 160]) rfl rfl trivial ?_
  refine xb_e hf (fun v1 h2 e3 hf => ?_)
  refine xw_V (v := some (.int v1)) rfl rfl (xkf (xs_k hS rfl rfl : xm_k h 160 = (0, 0))) (Nat.le_of_ble_eq_true rfl) (Nat.le_of_ble_eq_true rfl) (xm_Rn_le (Nat.le_of_ble_eq_true rfl) (t_X10_tags  hS e3).1) ?_
  have hS := (t_X10_tags  hS e3).2
  show xm_W _ _ _ 424 _ [.int v1] _
  refine xw_G (pc' := 425) (st' := [.ref 302, .int v1]) rfl rfl trivial ?_
  refine xb_e hf (fun v4 h5 e6 hf => ?_)
  refine xw_V (v := some (.int v4)) rfl rfl (xkf (xs_k hS rfl rfl : xm_k h2 302 = (11, 0))) (Nat.le_of_ble_eq_true rfl) (Nat.le_of_ble_eq_true rfl) (xm_Rn_le (Nat.le_of_ble_eq_true rfl) (t_X11_tags  hS e6).1) ?_
  have hS := (t_X11_tags  hS e6).2
  show xm_W _ _ _ 428 _ [.int v4, .int v1] _
  refine xj_ic_eq rfl hf (fun hc7 hf => ?_) (fun hc7 hf => ?_)
  · refine xw_G (pc' := 2879) (ls' := [some (.ref 0), some (.ref 160), some (.ref 302), some (.ref 316), some (.ref 317), some (.int (c5 + (6 : Int32))), none, none, none]) (st' := []) rfl rfl (Nat.le_of_ble_eq_true rfl) ?_
    refine xw_G (pc' := 28) (st' := []) rfl rfl trivial ?_
    refine xw_M rfl rfl ?_
    exact ih _ _ ⟨_, _, hS⟩ hf
  · refine xw_G (pc' := 432) (st' := [.int (0 : Int32)]) rfl rfl trivial ?_
    exact xr_i (inj := xji) (φ := fun h => ∃ ρ δ, xS ρ δ h) rfl rfl rfl rfl hf hQ ⟨_, _, hS⟩

theorem tc_L_law_6 {N ρ δ : Nat} {Q : xm_O → xm_H → Prop} {w : Int32 × xm_H} (hQ : (∃ ρ δ, xS ρ δ w.2) → Q (xji w.1) w.2) {rec : Int32 → xm_H → Option (Int32 × xm_H)} (ih : ∀ (c5 : Int32) (h : xm_H), (∃ ρ δ, xS ρ δ h) → rec c5 h = some w → xm_W (xm_Rn xX 60) xM_L_law Q 28 [some (.ref 0), some (.ref 160), some (.ref 302), some (.ref 316), some (.ref 317), some (.int c5), none, none, none] [] h) : ∀ (c5 : Int32) (h : xm_H), xS ρ δ h → f_L_law_c6 N ρ δ rec c5 h = some w → xm_W (xm_Rn xX 60) xM_L_law Q 433 [some (.ref 0), some (.ref 160), some (.ref 302), some (.ref 316), some (.ref 317), some (.int c5), none, none, none] [] h := by
  intro c5 h hS hf
  unfold f_L_law_c6 at hf
  refine xw_G (pc' := 434) (st' := [.ref 160]) rfl rfl trivial ?_
  refine xb_e hf (fun v1 h2 e3 hf => ?_)
  refine xw_V (v := some (.int v1)) rfl rfl (xkf (xs_k hS rfl rfl : xm_k h 160 = (0, 0))) (Nat.le_of_ble_eq_true rfl) (Nat.le_of_ble_eq_true rfl) (xm_Rn_le (Nat.le_of_ble_eq_true rfl) (t_X10_slots  hS e3).1) ?_
  have hS := (t_X10_slots  hS e3).2
  show xm_W _ _ _ 437 _ [.int v1] _
  refine xw_G (pc' := 438) (st' := [.ref 302, .int v1]) rfl rfl trivial ?_
  refine xb_e hf (fun v4 h5 e6 hf => ?_)
  refine xw_V (v := some (.int v4)) rfl rfl (xkf (xs_k hS rfl rfl : xm_k h2 302 = (11, 0))) (Nat.le_of_ble_eq_true rfl) (Nat.le_of_ble_eq_true rfl) (xm_Rn_le (Nat.le_of_ble_eq_true rfl) (t_X11_slots  hS e6).1) ?_
  have hS := (t_X11_slots  hS e6).2
  show xm_W _ _ _ 441 _ [.int v4, .int v1] _
  refine xj_ic_eq rfl hf (fun hc7 hf => ?_) (fun hc7 hf => ?_)
  · refine xw_G (pc' := 2879) (ls' := [some (.ref 0), some (.ref 160), some (.ref 302), some (.ref 316), some (.ref 317), some (.int (c5 + (6 : Int32))), none, none, none]) (st' := []) rfl rfl (Nat.le_of_ble_eq_true rfl) ?_
    refine xw_G (pc' := 28) (st' := []) rfl rfl trivial ?_
    refine xw_M rfl rfl ?_
    exact ih _ _ ⟨_, _, hS⟩ hf
  · refine xw_G (pc' := 445) (st' := [.int (0 : Int32)]) rfl rfl trivial ?_
    exact xr_i (inj := xji) (φ := fun h => ∃ ρ δ, xS ρ δ h) rfl rfl rfl rfl hf hQ ⟨_, _, hS⟩

theorem tc_L_law_7 {N ρ δ : Nat} {Q : xm_O → xm_H → Prop} {w : Int32 × xm_H} (hQ : (∃ ρ δ, xS ρ δ w.2) → Q (xji w.1) w.2) {rec : Int32 → xm_H → Option (Int32 × xm_H)} (ih : ∀ (c5 : Int32) (h : xm_H), (∃ ρ δ, xS ρ δ h) → rec c5 h = some w → xm_W (xm_Rn xX 60) xM_L_law Q 28 [some (.ref 0), some (.ref 160), some (.ref 302), some (.ref 316), some (.ref 317), some (.int c5), none, none, none] [] h) : ∀ (c5 : Int32) (h : xm_H), xS ρ δ h → f_L_law_c7 N ρ δ rec c5 h = some w → xm_W (xm_Rn xX 60) xM_L_law Q 446 [some (.ref 0), some (.ref 160), some (.ref 302), some (.ref 316), some (.ref 317), some (.int c5), none, none, none] [] h := by
  intro c5 h hS hf
  unfold f_L_law_c7 at hf
  refine xw_G (pc' := 447) (st' := [.ref 160]) rfl rfl trivial ?_
  refine xw_G (pc' := 448) (st' := [.ref 0, .ref 160]) rfl rfl trivial ?_
  refine xw_G (pc' := 450) (st' := [.int c5, .ref 0, .ref 160]) rfl rfl trivial ?_
  refine xw_G (pc' := 451) (st' := [.int (1 : Int32), .int c5, .ref 0, .ref 160]) rfl rfl trivial ?_
  refine xw_G (pc' := 452) (st' := [.int (c5 + (1 : Int32)), .ref 0, .ref 160]) rfl rfl trivial ?_
  refine xg_e hf (fun hg1 hf => ?_)
  refine xg_e hf (fun hg2 hf => ?_)
  refine xa_ld (t := 100) (τ := 0) (v := .int (xm_i h 0 (Int32.toNatClampNeg (c5 + (1 : Int32))))) rfl rfl hg1 rfl hg2 rfl ?_
  refine xw_G (pc' := 454) (st' := [.ref 316, .int (xm_i h 0 (Int32.toNatClampNeg (c5 + (1 : Int32)))), .ref 160]) rfl rfl trivial ?_
  refine xb_e hf (fun v3 h4 e5 hf => ?_)
  refine xw_S10 (v := some (.int v3)) rfl (Nat.le_of_ble_eq_true rfl) (Nat.le_of_ble_eq_true rfl) (xm_Rn_le (Nat.le_of_ble_eq_true rfl) (t_L_floor  hS e5).1) ?_
  have hS := (t_L_floor  hS e5).2
  show xm_W _ _ _ 457 _ [.int v3] _
  refine xw_G (pc' := 459) (ls' := [some (.ref 0), some (.ref 160), some (.ref 302), some (.ref 316), some (.ref 317), some (.int c5), some (.int v3), none, none]) (st' := []) rfl rfl (Nat.le_of_ble_eq_true rfl) ?_
  refine xw_G (pc' := 460) (st' := [.ref 302]) rfl rfl trivial ?_
  refine xw_G (pc' := 461) (st' := [.ref 0, .ref 302]) rfl rfl trivial ?_
  refine xw_G (pc' := 463) (st' := [.int c5, .ref 0, .ref 302]) rfl rfl trivial ?_
  refine xw_G (pc' := 464) (st' := [.int (1 : Int32), .int c5, .ref 0, .ref 302]) rfl rfl trivial ?_
  refine xw_G (pc' := 465) (st' := [.int (c5 + (1 : Int32)), .ref 0, .ref 302]) rfl rfl trivial ?_
  refine xg_e hf (fun hg6 hf => ?_)
  refine xg_e hf (fun hg7 hf => ?_)
  refine xa_ld (t := 100) (τ := 0) (v := .int (xm_i h4 0 (Int32.toNatClampNeg (c5 + (1 : Int32))))) rfl rfl hg6 rfl hg7 rfl ?_
  refine xb_e hf (fun v8 h9 e10 hf => ?_)
  refine xw_V (v := some (.int v8)) rfl rfl (xkf (xs_k hS rfl rfl : xm_k h4 302 = (11, 0))) (Nat.le_of_ble_eq_true rfl) (Nat.le_of_ble_eq_true rfl) (xm_Rn_le (Nat.le_of_ble_eq_true rfl) (t_X11_floor  hS e10).1) ?_
  have hS := (t_X11_floor  hS e10).2
  show xm_W _ _ _ 469 _ [.int v8] _
  refine xw_G (pc' := 471) (ls' := [some (.ref 0), some (.ref 160), some (.ref 302), some (.ref 316), some (.ref 317), some (.int c5), some (.int v3), some (.int v8), none]) (st' := []) rfl rfl (Nat.le_of_ble_eq_true rfl) ?_
  refine xw_G (pc' := 472) (st' := [.ref 302]) rfl rfl trivial ?_
  refine xb_e hf (fun v11 h12 e13 hf => ?_)
  refine xw_V (v := some (.int v11)) rfl rfl (xkf (xs_k hS rfl rfl : xm_k h9 302 = (11, 0))) (Nat.le_of_ble_eq_true rfl) (Nat.le_of_ble_eq_true rfl) (xm_Rn_le (Nat.le_of_ble_eq_true rfl) (t_X11_thrown  hS e13).1) ?_
  have hS := (t_X11_thrown  hS e13).2
  show xm_W _ _ _ 475 _ [.int v11] _
  refine xw_G (pc' := 477) (st' := [.int v3, .int v11]) rfl rfl trivial ?_
  refine xj_ic_eq rfl hf (fun hc14 hf => ?_) (fun hc14 hf => ?_)
  · refine xw_G (pc' := 484) (st' := [.int v3]) rfl rfl trivial ?_
    refine xj_if_ne rfl hf (fun hc15 hf => ?_) (fun hc15 hf => ?_)
    · refine xw_G (pc' := 488) (st' := [.ref 316]) rfl rfl trivial ?_
      refine xw_G (pc' := 489) (st' := [.int (0 : Int32), .ref 316]) rfl rfl trivial ?_
      refine xa_ld (t := 104) (τ := 4) (v := .long (xm_l h12 316 0)) rfl rfl (xkf (xs_k hS rfl rfl : xm_k h12 316 = (104, 1))) (xkn (xs_k hS rfl rfl : xm_k h12 316 = (104, 1))) (by decide : xin (0 : Int32) 1) rfl ?_
      refine xw_G (pc' := 492) (st' := [.int v8, .long (xm_l h12 316 0)]) rfl rfl trivial ?_
      refine xw_G (pc' := 493) (st' := [.long (Int32.toInt64 v8), .long (xm_l h12 316 0)]) rfl rfl trivial ?_
      refine xw_G (pc' := 494) (st' := [.int (lg_cmp (xm_l h12 316 0) (Int32.toInt64 v8))]) rfl rfl trivial ?_
      refine xj_if_eq rfl hf (fun hc16 hf => ?_) (fun hc16 hf => ?_)
      · refine xw_G (pc' := 2876) (st' := []) rfl rfl trivial ?_
        refine xw_G (pc' := 2879) (ls' := [some (.ref 0), some (.ref 160), some (.ref 302), some (.ref 316), some (.ref 317), some (.int (c5 + (6 : Int32))), some (.int v3), some (.int v8), none]) (st' := []) rfl rfl (Nat.le_of_ble_eq_true rfl) ?_
        refine xw_G (pc' := 28) (st' := []) rfl rfl trivial ?_
        refine xw_M rfl rfl ?_
        exact ih _ _ ⟨_, _, hS⟩ hf
      · refine xw_G (pc' := 498) (st' := [.int (0 : Int32)]) rfl rfl trivial ?_
        exact xr_i (inj := xji) (φ := fun h => ∃ ρ δ, xS ρ δ h) rfl rfl rfl rfl hf hQ ⟨_, _, hS⟩
    · refine xw_G (pc' := 2876) (st' := []) rfl rfl trivial ?_
      refine xw_G (pc' := 2879) (ls' := [some (.ref 0), some (.ref 160), some (.ref 302), some (.ref 316), some (.ref 317), some (.int (c5 + (6 : Int32))), some (.int v3), some (.int v8), none]) (st' := []) rfl rfl (Nat.le_of_ble_eq_true rfl) ?_
      refine xw_G (pc' := 28) (st' := []) rfl rfl trivial ?_
      refine xw_M rfl rfl ?_
      exact ih _ _ ⟨_, _, hS⟩ hf
  · refine xw_G (pc' := 481) (st' := [.int (0 : Int32)]) rfl rfl trivial ?_
    exact xr_i (inj := xji) (φ := fun h => ∃ ρ δ, xS ρ δ h) rfl rfl rfl rfl hf hQ ⟨_, _, hS⟩

theorem tc_L_law_8 {N ρ δ : Nat} {Q : xm_O → xm_H → Prop} {w : Int32 × xm_H} (hQ : (∃ ρ δ, xS ρ δ w.2) → Q (xji w.1) w.2) {rec : Int32 → xm_H → Option (Int32 × xm_H)} (ih : ∀ (c5 : Int32) (h : xm_H), (∃ ρ δ, xS ρ δ h) → rec c5 h = some w → xm_W (xm_Rn xX 60) xM_L_law Q 28 [some (.ref 0), some (.ref 160), some (.ref 302), some (.ref 316), some (.ref 317), some (.int c5), none, none, none] [] h) : ∀ (c5 : Int32) (h : xm_H), xS ρ δ h → f_L_law_c8 N ρ δ rec c5 h = some w → xm_W (xm_Rn xX 60) xM_L_law Q 502 [some (.ref 0), some (.ref 160), some (.ref 302), some (.ref 316), some (.ref 317), some (.int c5), none, none, none] [] h := by
  intro c5 h hS hf
  unfold f_L_law_c8 at hf
  refine xw_G (pc' := 503) (st' := [.ref 160]) rfl rfl trivial ?_
  refine xw_G (pc' := 504) (st' := [.ref 0, .ref 160]) rfl rfl trivial ?_
  refine xw_G (pc' := 506) (st' := [.int c5, .ref 0, .ref 160]) rfl rfl trivial ?_
  refine xw_G (pc' := 507) (st' := [.int (1 : Int32), .int c5, .ref 0, .ref 160]) rfl rfl trivial ?_
  refine xw_G (pc' := 508) (st' := [.int (c5 + (1 : Int32)), .ref 0, .ref 160]) rfl rfl trivial ?_
  refine xg_e hf (fun hg1 hf => ?_)
  refine xg_e hf (fun hg2 hf => ?_)
  refine xa_ld (t := 100) (τ := 0) (v := .int (xm_i h 0 (Int32.toNatClampNeg (c5 + (1 : Int32))))) rfl rfl hg1 rfl hg2 rfl ?_
  refine xw_G (pc' := 510) (st' := [.ref 316, .int (xm_i h 0 (Int32.toNatClampNeg (c5 + (1 : Int32)))), .ref 160]) rfl rfl trivial ?_
  refine xb_e hf (fun v3 h4 e5 hf => ?_)
  refine xw_S10 (v := some (.int v3)) rfl (Nat.le_of_ble_eq_true rfl) (Nat.le_of_ble_eq_true rfl) (xm_Rn_le (Nat.le_of_ble_eq_true rfl) (t_L_bid  hS e5).1) ?_
  have hS := (t_L_bid  hS e5).2
  show xm_W _ _ _ 513 _ [.int v3] _
  refine xw_G (pc' := 515) (ls' := [some (.ref 0), some (.ref 160), some (.ref 302), some (.ref 316), some (.ref 317), some (.int c5), some (.int v3), none, none]) (st' := []) rfl rfl (Nat.le_of_ble_eq_true rfl) ?_
  refine xw_G (pc' := 516) (st' := [.ref 302]) rfl rfl trivial ?_
  refine xw_G (pc' := 517) (st' := [.ref 0, .ref 302]) rfl rfl trivial ?_
  refine xw_G (pc' := 519) (st' := [.int c5, .ref 0, .ref 302]) rfl rfl trivial ?_
  refine xw_G (pc' := 520) (st' := [.int (1 : Int32), .int c5, .ref 0, .ref 302]) rfl rfl trivial ?_
  refine xw_G (pc' := 521) (st' := [.int (c5 + (1 : Int32)), .ref 0, .ref 302]) rfl rfl trivial ?_
  refine xg_e hf (fun hg6 hf => ?_)
  refine xg_e hf (fun hg7 hf => ?_)
  refine xa_ld (t := 100) (τ := 0) (v := .int (xm_i h4 0 (Int32.toNatClampNeg (c5 + (1 : Int32))))) rfl rfl hg6 rfl hg7 rfl ?_
  refine xb_e hf (fun v8 h9 e10 hf => ?_)
  refine xw_V (v := some (.int v8)) rfl rfl (xkf (xs_k hS rfl rfl : xm_k h4 302 = (11, 0))) (Nat.le_of_ble_eq_true rfl) (Nat.le_of_ble_eq_true rfl) (xm_Rn_le (Nat.le_of_ble_eq_true rfl) (t_X11_bid  hS e10).1) ?_
  have hS := (t_X11_bid  hS e10).2
  show xm_W _ _ _ 525 _ [.int v8] _
  refine xw_G (pc' := 527) (ls' := [some (.ref 0), some (.ref 160), some (.ref 302), some (.ref 316), some (.ref 317), some (.int c5), some (.int v3), some (.int v8), none]) (st' := []) rfl rfl (Nat.le_of_ble_eq_true rfl) ?_
  refine xw_G (pc' := 528) (st' := [.ref 302]) rfl rfl trivial ?_
  refine xb_e hf (fun v11 h12 e13 hf => ?_)
  refine xw_V (v := some (.int v11)) rfl rfl (xkf (xs_k hS rfl rfl : xm_k h9 302 = (11, 0))) (Nat.le_of_ble_eq_true rfl) (Nat.le_of_ble_eq_true rfl) (xm_Rn_le (Nat.le_of_ble_eq_true rfl) (t_X11_thrown  hS e13).1) ?_
  have hS := (t_X11_thrown  hS e13).2
  show xm_W _ _ _ 531 _ [.int v11] _
  refine xw_G (pc' := 533) (st' := [.int v3, .int v11]) rfl rfl trivial ?_
  refine xj_ic_eq rfl hf (fun hc14 hf => ?_) (fun hc14 hf => ?_)
  · refine xw_G (pc' := 540) (st' := [.int v3]) rfl rfl trivial ?_
    refine xj_if_ne rfl hf (fun hc15 hf => ?_) (fun hc15 hf => ?_)
    · refine xw_G (pc' := 544) (st' := [.ref 316]) rfl rfl trivial ?_
      refine xw_G (pc' := 545) (st' := [.int (0 : Int32), .ref 316]) rfl rfl trivial ?_
      refine xa_ld (t := 104) (τ := 4) (v := .long (xm_l h12 316 0)) rfl rfl (xkf (xs_k hS rfl rfl : xm_k h12 316 = (104, 1))) (xkn (xs_k hS rfl rfl : xm_k h12 316 = (104, 1))) (by decide : xin (0 : Int32) 1) rfl ?_
      refine xw_G (pc' := 548) (st' := [.int v8, .long (xm_l h12 316 0)]) rfl rfl trivial ?_
      refine xw_G (pc' := 549) (st' := [.long (Int32.toInt64 v8), .long (xm_l h12 316 0)]) rfl rfl trivial ?_
      refine xw_G (pc' := 550) (st' := [.int (lg_cmp (xm_l h12 316 0) (Int32.toInt64 v8))]) rfl rfl trivial ?_
      refine xj_if_eq rfl hf (fun hc16 hf => ?_) (fun hc16 hf => ?_)
      · refine xw_G (pc' := 2876) (st' := []) rfl rfl trivial ?_
        refine xw_G (pc' := 2879) (ls' := [some (.ref 0), some (.ref 160), some (.ref 302), some (.ref 316), some (.ref 317), some (.int (c5 + (6 : Int32))), some (.int v3), some (.int v8), none]) (st' := []) rfl rfl (Nat.le_of_ble_eq_true rfl) ?_
        refine xw_G (pc' := 28) (st' := []) rfl rfl trivial ?_
        refine xw_M rfl rfl ?_
        exact ih _ _ ⟨_, _, hS⟩ hf
      · refine xw_G (pc' := 554) (st' := [.int (0 : Int32)]) rfl rfl trivial ?_
        exact xr_i (inj := xji) (φ := fun h => ∃ ρ δ, xS ρ δ h) rfl rfl rfl rfl hf hQ ⟨_, _, hS⟩
    · refine xw_G (pc' := 2876) (st' := []) rfl rfl trivial ?_
      refine xw_G (pc' := 2879) (ls' := [some (.ref 0), some (.ref 160), some (.ref 302), some (.ref 316), some (.ref 317), some (.int (c5 + (6 : Int32))), some (.int v3), some (.int v8), none]) (st' := []) rfl rfl (Nat.le_of_ble_eq_true rfl) ?_
      refine xw_G (pc' := 28) (st' := []) rfl rfl trivial ?_
      refine xw_M rfl rfl ?_
      exact ih _ _ ⟨_, _, hS⟩ hf
  · refine xw_G (pc' := 537) (st' := [.int (0 : Int32)]) rfl rfl trivial ?_
    exact xr_i (inj := xji) (φ := fun h => ∃ ρ δ, xS ρ δ h) rfl rfl rfl rfl hf hQ ⟨_, _, hS⟩

theorem tc_L_law_9 {N ρ δ : Nat} {Q : xm_O → xm_H → Prop} {w : Int32 × xm_H} (hQ : (∃ ρ δ, xS ρ δ w.2) → Q (xji w.1) w.2) {rec : Int32 → xm_H → Option (Int32 × xm_H)} (ih : ∀ (c5 : Int32) (h : xm_H), (∃ ρ δ, xS ρ δ h) → rec c5 h = some w → xm_W (xm_Rn xX 60) xM_L_law Q 28 [some (.ref 0), some (.ref 160), some (.ref 302), some (.ref 316), some (.ref 317), some (.int c5), none, none, none] [] h) : ∀ (c5 : Int32) (h : xm_H), xS ρ δ h → f_L_law_c9 N ρ δ rec c5 h = some w → xm_W (xm_Rn xX 60) xM_L_law Q 558 [some (.ref 0), some (.ref 160), some (.ref 302), some (.ref 316), some (.ref 317), some (.int c5), none, none, none] [] h := by
  intro c5 h hS hf
  unfold f_L_law_c9 at hf
  refine xw_G (pc' := 559) (st' := [.ref 160]) rfl rfl trivial ?_
  refine xw_G (pc' := 560) (st' := [.ref 0, .ref 160]) rfl rfl trivial ?_
  refine xw_G (pc' := 562) (st' := [.int c5, .ref 0, .ref 160]) rfl rfl trivial ?_
  refine xw_G (pc' := 563) (st' := [.int (1 : Int32), .int c5, .ref 0, .ref 160]) rfl rfl trivial ?_
  refine xw_G (pc' := 564) (st' := [.int (c5 + (1 : Int32)), .ref 0, .ref 160]) rfl rfl trivial ?_
  refine xg_e hf (fun hg1 hf => ?_)
  refine xg_e hf (fun hg2 hf => ?_)
  refine xa_ld (t := 100) (τ := 0) (v := .int (xm_i h 0 (Int32.toNatClampNeg (c5 + (1 : Int32))))) rfl rfl hg1 rfl hg2 rfl ?_
  refine xw_G (pc' := 566) (st' := [.ref 316, .int (xm_i h 0 (Int32.toNatClampNeg (c5 + (1 : Int32)))), .ref 160]) rfl rfl trivial ?_
  refine xb_e hf (fun v3 h4 e5 hf => ?_)
  refine xw_S10 (v := some (.int v3)) rfl (Nat.le_of_ble_eq_true rfl) (Nat.le_of_ble_eq_true rfl) (xm_Rn_le (Nat.le_of_ble_eq_true rfl) (t_L_effectiveBid  hS e5).1) ?_
  have hS := (t_L_effectiveBid  hS e5).2
  show xm_W _ _ _ 569 _ [.int v3] _
  refine xw_G (pc' := 571) (ls' := [some (.ref 0), some (.ref 160), some (.ref 302), some (.ref 316), some (.ref 317), some (.int c5), some (.int v3), none, none]) (st' := []) rfl rfl (Nat.le_of_ble_eq_true rfl) ?_
  refine xw_G (pc' := 572) (st' := [.ref 302]) rfl rfl trivial ?_
  refine xw_G (pc' := 573) (st' := [.ref 0, .ref 302]) rfl rfl trivial ?_
  refine xw_G (pc' := 575) (st' := [.int c5, .ref 0, .ref 302]) rfl rfl trivial ?_
  refine xw_G (pc' := 576) (st' := [.int (1 : Int32), .int c5, .ref 0, .ref 302]) rfl rfl trivial ?_
  refine xw_G (pc' := 577) (st' := [.int (c5 + (1 : Int32)), .ref 0, .ref 302]) rfl rfl trivial ?_
  refine xg_e hf (fun hg6 hf => ?_)
  refine xg_e hf (fun hg7 hf => ?_)
  refine xa_ld (t := 100) (τ := 0) (v := .int (xm_i h4 0 (Int32.toNatClampNeg (c5 + (1 : Int32))))) rfl rfl hg6 rfl hg7 rfl ?_
  refine xb_e hf (fun v8 h9 e10 hf => ?_)
  refine xw_V (v := some (.int v8)) rfl rfl (xkf (xs_k hS rfl rfl : xm_k h4 302 = (11, 0))) (Nat.le_of_ble_eq_true rfl) (Nat.le_of_ble_eq_true rfl) (xm_Rn_le (Nat.le_of_ble_eq_true rfl) (t_X11_effectiveBid  hS e10).1) ?_
  have hS := (t_X11_effectiveBid  hS e10).2
  show xm_W _ _ _ 581 _ [.int v8] _
  refine xw_G (pc' := 583) (ls' := [some (.ref 0), some (.ref 160), some (.ref 302), some (.ref 316), some (.ref 317), some (.int c5), some (.int v3), some (.int v8), none]) (st' := []) rfl rfl (Nat.le_of_ble_eq_true rfl) ?_
  refine xw_G (pc' := 584) (st' := [.ref 302]) rfl rfl trivial ?_
  refine xb_e hf (fun v11 h12 e13 hf => ?_)
  refine xw_V (v := some (.int v11)) rfl rfl (xkf (xs_k hS rfl rfl : xm_k h9 302 = (11, 0))) (Nat.le_of_ble_eq_true rfl) (Nat.le_of_ble_eq_true rfl) (xm_Rn_le (Nat.le_of_ble_eq_true rfl) (t_X11_thrown  hS e13).1) ?_
  have hS := (t_X11_thrown  hS e13).2
  show xm_W _ _ _ 587 _ [.int v11] _
  refine xw_G (pc' := 589) (st' := [.int v3, .int v11]) rfl rfl trivial ?_
  refine xj_ic_eq rfl hf (fun hc14 hf => ?_) (fun hc14 hf => ?_)
  · refine xw_G (pc' := 596) (st' := [.int v3]) rfl rfl trivial ?_
    refine xj_if_ne rfl hf (fun hc15 hf => ?_) (fun hc15 hf => ?_)
    · refine xw_G (pc' := 600) (st' := [.ref 316]) rfl rfl trivial ?_
      refine xw_G (pc' := 601) (st' := [.int (0 : Int32), .ref 316]) rfl rfl trivial ?_
      refine xa_ld (t := 104) (τ := 4) (v := .long (xm_l h12 316 0)) rfl rfl (xkf (xs_k hS rfl rfl : xm_k h12 316 = (104, 1))) (xkn (xs_k hS rfl rfl : xm_k h12 316 = (104, 1))) (by decide : xin (0 : Int32) 1) rfl ?_
      refine xw_G (pc' := 604) (st' := [.int v8, .long (xm_l h12 316 0)]) rfl rfl trivial ?_
      refine xw_G (pc' := 605) (st' := [.long (Int32.toInt64 v8), .long (xm_l h12 316 0)]) rfl rfl trivial ?_
      refine xw_G (pc' := 606) (st' := [.int (lg_cmp (xm_l h12 316 0) (Int32.toInt64 v8))]) rfl rfl trivial ?_
      refine xj_if_eq rfl hf (fun hc16 hf => ?_) (fun hc16 hf => ?_)
      · refine xw_G (pc' := 2876) (st' := []) rfl rfl trivial ?_
        refine xw_G (pc' := 2879) (ls' := [some (.ref 0), some (.ref 160), some (.ref 302), some (.ref 316), some (.ref 317), some (.int (c5 + (6 : Int32))), some (.int v3), some (.int v8), none]) (st' := []) rfl rfl (Nat.le_of_ble_eq_true rfl) ?_
        refine xw_G (pc' := 28) (st' := []) rfl rfl trivial ?_
        refine xw_M rfl rfl ?_
        exact ih _ _ ⟨_, _, hS⟩ hf
      · refine xw_G (pc' := 610) (st' := [.int (0 : Int32)]) rfl rfl trivial ?_
        exact xr_i (inj := xji) (φ := fun h => ∃ ρ δ, xS ρ δ h) rfl rfl rfl rfl hf hQ ⟨_, _, hS⟩
    · refine xw_G (pc' := 2876) (st' := []) rfl rfl trivial ?_
      refine xw_G (pc' := 2879) (ls' := [some (.ref 0), some (.ref 160), some (.ref 302), some (.ref 316), some (.ref 317), some (.int (c5 + (6 : Int32))), some (.int v3), some (.int v8), none]) (st' := []) rfl rfl (Nat.le_of_ble_eq_true rfl) ?_
      refine xw_G (pc' := 28) (st' := []) rfl rfl trivial ?_
      refine xw_M rfl rfl ?_
      exact ih _ _ ⟨_, _, hS⟩ hf
  · refine xw_G (pc' := 593) (st' := [.int (0 : Int32)]) rfl rfl trivial ?_
    exact xr_i (inj := xji) (φ := fun h => ∃ ρ δ, xS ρ δ h) rfl rfl rfl rfl hf hQ ⟨_, _, hS⟩

theorem tc_L_law_10 {N ρ δ : Nat} {Q : xm_O → xm_H → Prop} {w : Int32 × xm_H} (hQ : (∃ ρ δ, xS ρ δ w.2) → Q (xji w.1) w.2) {rec : Int32 → xm_H → Option (Int32 × xm_H)} (ih : ∀ (c5 : Int32) (h : xm_H), (∃ ρ δ, xS ρ δ h) → rec c5 h = some w → xm_W (xm_Rn xX 60) xM_L_law Q 28 [some (.ref 0), some (.ref 160), some (.ref 302), some (.ref 316), some (.ref 317), some (.int c5), none, none, none] [] h) : ∀ (c5 : Int32) (h : xm_H), xS ρ δ h → f_L_law_c10 N ρ δ rec c5 h = some w → xm_W (xm_Rn xX 60) xM_L_law Q 614 [some (.ref 0), some (.ref 160), some (.ref 302), some (.ref 316), some (.ref 317), some (.int c5), none, none, none] [] h := by
  intro c5 h hS hf
  unfold f_L_law_c10 at hf
  refine xw_G (pc' := 615) (st' := [.ref 160]) rfl rfl trivial ?_
  refine xw_G (pc' := 616) (st' := [.ref 0, .ref 160]) rfl rfl trivial ?_
  refine xw_G (pc' := 618) (st' := [.int c5, .ref 0, .ref 160]) rfl rfl trivial ?_
  refine xw_G (pc' := 619) (st' := [.int (1 : Int32), .int c5, .ref 0, .ref 160]) rfl rfl trivial ?_
  refine xw_G (pc' := 620) (st' := [.int (c5 + (1 : Int32)), .ref 0, .ref 160]) rfl rfl trivial ?_
  refine xg_e hf (fun hg1 hf => ?_)
  refine xg_e hf (fun hg2 hf => ?_)
  refine xa_ld (t := 100) (τ := 0) (v := .int (xm_i h 0 (Int32.toNatClampNeg (c5 + (1 : Int32))))) rfl rfl hg1 rfl hg2 rfl ?_
  refine xw_G (pc' := 622) (st' := [.ref 316, .int (xm_i h 0 (Int32.toNatClampNeg (c5 + (1 : Int32)))), .ref 160]) rfl rfl trivial ?_
  refine xb_e hf (fun v3 h4 e5 hf => ?_)
  refine xw_S10 (v := some (.int v3)) rfl (Nat.le_of_ble_eq_true rfl) (Nat.le_of_ble_eq_true rfl) (xm_Rn_le (Nat.le_of_ble_eq_true rfl) (t_L_multiplier  hS e5).1) ?_
  have hS := (t_L_multiplier  hS e5).2
  show xm_W _ _ _ 625 _ [.int v3] _
  refine xw_G (pc' := 627) (ls' := [some (.ref 0), some (.ref 160), some (.ref 302), some (.ref 316), some (.ref 317), some (.int c5), some (.int v3), none, none]) (st' := []) rfl rfl (Nat.le_of_ble_eq_true rfl) ?_
  refine xw_G (pc' := 628) (st' := [.ref 302]) rfl rfl trivial ?_
  refine xw_G (pc' := 629) (st' := [.ref 0, .ref 302]) rfl rfl trivial ?_
  refine xw_G (pc' := 631) (st' := [.int c5, .ref 0, .ref 302]) rfl rfl trivial ?_
  refine xw_G (pc' := 632) (st' := [.int (1 : Int32), .int c5, .ref 0, .ref 302]) rfl rfl trivial ?_
  refine xw_G (pc' := 633) (st' := [.int (c5 + (1 : Int32)), .ref 0, .ref 302]) rfl rfl trivial ?_
  refine xg_e hf (fun hg6 hf => ?_)
  refine xg_e hf (fun hg7 hf => ?_)
  refine xa_ld (t := 100) (τ := 0) (v := .int (xm_i h4 0 (Int32.toNatClampNeg (c5 + (1 : Int32))))) rfl rfl hg6 rfl hg7 rfl ?_
  refine xb_e hf (fun v8 h9 e10 hf => ?_)
  refine xw_V (v := some (.int v8)) rfl rfl (xkf (xs_k hS rfl rfl : xm_k h4 302 = (11, 0))) (Nat.le_of_ble_eq_true rfl) (Nat.le_of_ble_eq_true rfl) (xm_Rn_le (Nat.le_of_ble_eq_true rfl) (t_X11_multiplier  hS e10).1) ?_
  have hS := (t_X11_multiplier  hS e10).2
  show xm_W _ _ _ 637 _ [.int v8] _
  refine xw_G (pc' := 639) (ls' := [some (.ref 0), some (.ref 160), some (.ref 302), some (.ref 316), some (.ref 317), some (.int c5), some (.int v3), some (.int v8), none]) (st' := []) rfl rfl (Nat.le_of_ble_eq_true rfl) ?_
  refine xw_G (pc' := 640) (st' := [.ref 302]) rfl rfl trivial ?_
  refine xb_e hf (fun v11 h12 e13 hf => ?_)
  refine xw_V (v := some (.int v11)) rfl rfl (xkf (xs_k hS rfl rfl : xm_k h9 302 = (11, 0))) (Nat.le_of_ble_eq_true rfl) (Nat.le_of_ble_eq_true rfl) (xm_Rn_le (Nat.le_of_ble_eq_true rfl) (t_X11_thrown  hS e13).1) ?_
  have hS := (t_X11_thrown  hS e13).2
  show xm_W _ _ _ 643 _ [.int v11] _
  refine xw_G (pc' := 645) (st' := [.int v3, .int v11]) rfl rfl trivial ?_
  refine xj_ic_eq rfl hf (fun hc14 hf => ?_) (fun hc14 hf => ?_)
  · refine xw_G (pc' := 652) (st' := [.int v3]) rfl rfl trivial ?_
    refine xj_if_ne rfl hf (fun hc15 hf => ?_) (fun hc15 hf => ?_)
    · refine xw_G (pc' := 656) (st' := [.ref 316]) rfl rfl trivial ?_
      refine xw_G (pc' := 657) (st' := [.int (0 : Int32), .ref 316]) rfl rfl trivial ?_
      refine xa_ld (t := 104) (τ := 4) (v := .long (xm_l h12 316 0)) rfl rfl (xkf (xs_k hS rfl rfl : xm_k h12 316 = (104, 1))) (xkn (xs_k hS rfl rfl : xm_k h12 316 = (104, 1))) (by decide : xin (0 : Int32) 1) rfl ?_
      refine xw_G (pc' := 660) (st' := [.int v8, .long (xm_l h12 316 0)]) rfl rfl trivial ?_
      refine xw_G (pc' := 661) (st' := [.long (Int32.toInt64 v8), .long (xm_l h12 316 0)]) rfl rfl trivial ?_
      refine xw_G (pc' := 662) (st' := [.int (lg_cmp (xm_l h12 316 0) (Int32.toInt64 v8))]) rfl rfl trivial ?_
      refine xj_if_eq rfl hf (fun hc16 hf => ?_) (fun hc16 hf => ?_)
      · refine xw_G (pc' := 2876) (st' := []) rfl rfl trivial ?_
        refine xw_G (pc' := 2879) (ls' := [some (.ref 0), some (.ref 160), some (.ref 302), some (.ref 316), some (.ref 317), some (.int (c5 + (6 : Int32))), some (.int v3), some (.int v8), none]) (st' := []) rfl rfl (Nat.le_of_ble_eq_true rfl) ?_
        refine xw_G (pc' := 28) (st' := []) rfl rfl trivial ?_
        refine xw_M rfl rfl ?_
        exact ih _ _ ⟨_, _, hS⟩ hf
      · refine xw_G (pc' := 666) (st' := [.int (0 : Int32)]) rfl rfl trivial ?_
        exact xr_i (inj := xji) (φ := fun h => ∃ ρ δ, xS ρ δ h) rfl rfl rfl rfl hf hQ ⟨_, _, hS⟩
    · refine xw_G (pc' := 2876) (st' := []) rfl rfl trivial ?_
      refine xw_G (pc' := 2879) (ls' := [some (.ref 0), some (.ref 160), some (.ref 302), some (.ref 316), some (.ref 317), some (.int (c5 + (6 : Int32))), some (.int v3), some (.int v8), none]) (st' := []) rfl rfl (Nat.le_of_ble_eq_true rfl) ?_
      refine xw_G (pc' := 28) (st' := []) rfl rfl trivial ?_
      refine xw_M rfl rfl ?_
      exact ih _ _ ⟨_, _, hS⟩ hf
  · refine xw_G (pc' := 649) (st' := [.int (0 : Int32)]) rfl rfl trivial ?_
    exact xr_i (inj := xji) (φ := fun h => ∃ ρ δ, xS ρ δ h) rfl rfl rfl rfl hf hQ ⟨_, _, hS⟩

theorem tc_L_law_11 {N ρ δ : Nat} {Q : xm_O → xm_H → Prop} {w : Int32 × xm_H} (hQ : (∃ ρ δ, xS ρ δ w.2) → Q (xji w.1) w.2) {rec : Int32 → xm_H → Option (Int32 × xm_H)} (ih : ∀ (c5 : Int32) (h : xm_H), (∃ ρ δ, xS ρ δ h) → rec c5 h = some w → xm_W (xm_Rn xX 60) xM_L_law Q 28 [some (.ref 0), some (.ref 160), some (.ref 302), some (.ref 316), some (.ref 317), some (.int c5), none, none, none] [] h) : ∀ (c5 : Int32) (h : xm_H), xS ρ δ h → f_L_law_c11 N ρ δ rec c5 h = some w → xm_W (xm_Rn xX 60) xM_L_law Q 670 [some (.ref 0), some (.ref 160), some (.ref 302), some (.ref 316), some (.ref 317), some (.int c5), none, none, none] [] h := by
  intro c5 h hS hf
  unfold f_L_law_c11 at hf
  refine xw_G (pc' := 671) (st' := [.ref 160]) rfl rfl trivial ?_
  refine xw_G (pc' := 672) (st' := [.ref 0, .ref 160]) rfl rfl trivial ?_
  refine xw_G (pc' := 674) (st' := [.int c5, .ref 0, .ref 160]) rfl rfl trivial ?_
  refine xw_G (pc' := 675) (st' := [.int (1 : Int32), .int c5, .ref 0, .ref 160]) rfl rfl trivial ?_
  refine xw_G (pc' := 676) (st' := [.int (c5 + (1 : Int32)), .ref 0, .ref 160]) rfl rfl trivial ?_
  refine xg_e hf (fun hg1 hf => ?_)
  refine xg_e hf (fun hg2 hf => ?_)
  refine xa_ld (t := 100) (τ := 0) (v := .int (xm_i h 0 (Int32.toNatClampNeg (c5 + (1 : Int32))))) rfl rfl hg1 rfl hg2 rfl ?_
  refine xw_G (pc' := 678) (st' := [.ref 316, .int (xm_i h 0 (Int32.toNatClampNeg (c5 + (1 : Int32)))), .ref 160]) rfl rfl trivial ?_
  refine xb_e hf (fun v3 h4 e5 hf => ?_)
  refine xw_S10 (v := some (.int v3)) rfl (Nat.le_of_ble_eq_true rfl) (Nat.le_of_ble_eq_true rfl) (xm_Rn_le (Nat.le_of_ble_eq_true rfl) (t_L_budget  hS e5).1) ?_
  have hS := (t_L_budget  hS e5).2
  show xm_W _ _ _ 681 _ [.int v3] _
  refine xw_G (pc' := 683) (ls' := [some (.ref 0), some (.ref 160), some (.ref 302), some (.ref 316), some (.ref 317), some (.int c5), some (.int v3), none, none]) (st' := []) rfl rfl (Nat.le_of_ble_eq_true rfl) ?_
  refine xw_G (pc' := 684) (st' := [.ref 302]) rfl rfl trivial ?_
  refine xw_G (pc' := 685) (st' := [.ref 0, .ref 302]) rfl rfl trivial ?_
  refine xw_G (pc' := 687) (st' := [.int c5, .ref 0, .ref 302]) rfl rfl trivial ?_
  refine xw_G (pc' := 688) (st' := [.int (1 : Int32), .int c5, .ref 0, .ref 302]) rfl rfl trivial ?_
  refine xw_G (pc' := 689) (st' := [.int (c5 + (1 : Int32)), .ref 0, .ref 302]) rfl rfl trivial ?_
  refine xg_e hf (fun hg6 hf => ?_)
  refine xg_e hf (fun hg7 hf => ?_)
  refine xa_ld (t := 100) (τ := 0) (v := .int (xm_i h4 0 (Int32.toNatClampNeg (c5 + (1 : Int32))))) rfl rfl hg6 rfl hg7 rfl ?_
  refine xb_e hf (fun v8 h9 e10 hf => ?_)
  refine xw_V (v := some (.int v8)) rfl rfl (xkf (xs_k hS rfl rfl : xm_k h4 302 = (11, 0))) (Nat.le_of_ble_eq_true rfl) (Nat.le_of_ble_eq_true rfl) (xm_Rn_le (Nat.le_of_ble_eq_true rfl) (t_X11_budget  hS e10).1) ?_
  have hS := (t_X11_budget  hS e10).2
  show xm_W _ _ _ 693 _ [.int v8] _
  refine xw_G (pc' := 695) (ls' := [some (.ref 0), some (.ref 160), some (.ref 302), some (.ref 316), some (.ref 317), some (.int c5), some (.int v3), some (.int v8), none]) (st' := []) rfl rfl (Nat.le_of_ble_eq_true rfl) ?_
  refine xw_G (pc' := 696) (st' := [.ref 302]) rfl rfl trivial ?_
  refine xb_e hf (fun v11 h12 e13 hf => ?_)
  refine xw_V (v := some (.int v11)) rfl rfl (xkf (xs_k hS rfl rfl : xm_k h9 302 = (11, 0))) (Nat.le_of_ble_eq_true rfl) (Nat.le_of_ble_eq_true rfl) (xm_Rn_le (Nat.le_of_ble_eq_true rfl) (t_X11_thrown  hS e13).1) ?_
  have hS := (t_X11_thrown  hS e13).2
  show xm_W _ _ _ 699 _ [.int v11] _
  refine xw_G (pc' := 701) (st' := [.int v3, .int v11]) rfl rfl trivial ?_
  refine xj_ic_eq rfl hf (fun hc14 hf => ?_) (fun hc14 hf => ?_)
  · refine xw_G (pc' := 708) (st' := [.int v3]) rfl rfl trivial ?_
    refine xj_if_ne rfl hf (fun hc15 hf => ?_) (fun hc15 hf => ?_)
    · refine xw_G (pc' := 712) (st' := [.ref 316]) rfl rfl trivial ?_
      refine xw_G (pc' := 713) (st' := [.int (0 : Int32), .ref 316]) rfl rfl trivial ?_
      refine xa_ld (t := 104) (τ := 4) (v := .long (xm_l h12 316 0)) rfl rfl (xkf (xs_k hS rfl rfl : xm_k h12 316 = (104, 1))) (xkn (xs_k hS rfl rfl : xm_k h12 316 = (104, 1))) (by decide : xin (0 : Int32) 1) rfl ?_
      refine xw_G (pc' := 716) (st' := [.int v8, .long (xm_l h12 316 0)]) rfl rfl trivial ?_
      refine xw_G (pc' := 717) (st' := [.long (Int32.toInt64 v8), .long (xm_l h12 316 0)]) rfl rfl trivial ?_
      refine xw_G (pc' := 718) (st' := [.int (lg_cmp (xm_l h12 316 0) (Int32.toInt64 v8))]) rfl rfl trivial ?_
      refine xj_if_eq rfl hf (fun hc16 hf => ?_) (fun hc16 hf => ?_)
      · refine xw_G (pc' := 2876) (st' := []) rfl rfl trivial ?_
        refine xw_G (pc' := 2879) (ls' := [some (.ref 0), some (.ref 160), some (.ref 302), some (.ref 316), some (.ref 317), some (.int (c5 + (6 : Int32))), some (.int v3), some (.int v8), none]) (st' := []) rfl rfl (Nat.le_of_ble_eq_true rfl) ?_
        refine xw_G (pc' := 28) (st' := []) rfl rfl trivial ?_
        refine xw_M rfl rfl ?_
        exact ih _ _ ⟨_, _, hS⟩ hf
      · refine xw_G (pc' := 722) (st' := [.int (0 : Int32)]) rfl rfl trivial ?_
        exact xr_i (inj := xji) (φ := fun h => ∃ ρ δ, xS ρ δ h) rfl rfl rfl rfl hf hQ ⟨_, _, hS⟩
    · refine xw_G (pc' := 2876) (st' := []) rfl rfl trivial ?_
      refine xw_G (pc' := 2879) (ls' := [some (.ref 0), some (.ref 160), some (.ref 302), some (.ref 316), some (.ref 317), some (.int (c5 + (6 : Int32))), some (.int v3), some (.int v8), none]) (st' := []) rfl rfl (Nat.le_of_ble_eq_true rfl) ?_
      refine xw_G (pc' := 28) (st' := []) rfl rfl trivial ?_
      refine xw_M rfl rfl ?_
      exact ih _ _ ⟨_, _, hS⟩ hf
  · refine xw_G (pc' := 705) (st' := [.int (0 : Int32)]) rfl rfl trivial ?_
    exact xr_i (inj := xji) (φ := fun h => ∃ ρ δ, xS ρ δ h) rfl rfl rfl rfl hf hQ ⟨_, _, hS⟩

theorem tc_L_law_12 {N ρ δ : Nat} {Q : xm_O → xm_H → Prop} {w : Int32 × xm_H} (hQ : (∃ ρ δ, xS ρ δ w.2) → Q (xji w.1) w.2) {rec : Int32 → xm_H → Option (Int32 × xm_H)} (ih : ∀ (c5 : Int32) (h : xm_H), (∃ ρ δ, xS ρ δ h) → rec c5 h = some w → xm_W (xm_Rn xX 60) xM_L_law Q 28 [some (.ref 0), some (.ref 160), some (.ref 302), some (.ref 316), some (.ref 317), some (.int c5), none, none, none] [] h) : ∀ (c5 : Int32) (h : xm_H), xS ρ δ h → f_L_law_c12 N ρ δ rec c5 h = some w → xm_W (xm_Rn xX 60) xM_L_law Q 726 [some (.ref 0), some (.ref 160), some (.ref 302), some (.ref 316), some (.ref 317), some (.int c5), none, none, none] [] h := by
  intro c5 h hS hf
  unfold f_L_law_c12 at hf
  refine xw_G (pc' := 727) (st' := [.ref 160]) rfl rfl trivial ?_
  refine xw_G (pc' := 728) (st' := [.ref 0, .ref 160]) rfl rfl trivial ?_
  refine xw_G (pc' := 730) (st' := [.int c5, .ref 0, .ref 160]) rfl rfl trivial ?_
  refine xw_G (pc' := 731) (st' := [.int (1 : Int32), .int c5, .ref 0, .ref 160]) rfl rfl trivial ?_
  refine xw_G (pc' := 732) (st' := [.int (c5 + (1 : Int32)), .ref 0, .ref 160]) rfl rfl trivial ?_
  refine xg_e hf (fun hg1 hf => ?_)
  refine xg_e hf (fun hg2 hf => ?_)
  refine xa_ld (t := 100) (τ := 0) (v := .int (xm_i h 0 (Int32.toNatClampNeg (c5 + (1 : Int32))))) rfl rfl hg1 rfl hg2 rfl ?_
  refine xw_G (pc' := 734) (st' := [.ref 316, .int (xm_i h 0 (Int32.toNatClampNeg (c5 + (1 : Int32)))), .ref 160]) rfl rfl trivial ?_
  refine xb_e hf (fun v3 h4 e5 hf => ?_)
  refine xw_S10 (v := some (.int v3)) rfl (Nat.le_of_ble_eq_true rfl) (Nat.le_of_ble_eq_true rfl) (xm_Rn_le (Nat.le_of_ble_eq_true rfl) (t_L_spent  hS e5).1) ?_
  have hS := (t_L_spent  hS e5).2
  show xm_W _ _ _ 737 _ [.int v3] _
  refine xw_G (pc' := 739) (ls' := [some (.ref 0), some (.ref 160), some (.ref 302), some (.ref 316), some (.ref 317), some (.int c5), some (.int v3), none, none]) (st' := []) rfl rfl (Nat.le_of_ble_eq_true rfl) ?_
  refine xw_G (pc' := 740) (st' := [.ref 302]) rfl rfl trivial ?_
  refine xw_G (pc' := 741) (st' := [.ref 0, .ref 302]) rfl rfl trivial ?_
  refine xw_G (pc' := 743) (st' := [.int c5, .ref 0, .ref 302]) rfl rfl trivial ?_
  refine xw_G (pc' := 744) (st' := [.int (1 : Int32), .int c5, .ref 0, .ref 302]) rfl rfl trivial ?_
  refine xw_G (pc' := 745) (st' := [.int (c5 + (1 : Int32)), .ref 0, .ref 302]) rfl rfl trivial ?_
  refine xg_e hf (fun hg6 hf => ?_)
  refine xg_e hf (fun hg7 hf => ?_)
  refine xa_ld (t := 100) (τ := 0) (v := .int (xm_i h4 0 (Int32.toNatClampNeg (c5 + (1 : Int32))))) rfl rfl hg6 rfl hg7 rfl ?_
  refine xb_e hf (fun v8 h9 e10 hf => ?_)
  refine xw_V (v := some (.int v8)) rfl rfl (xkf (xs_k hS rfl rfl : xm_k h4 302 = (11, 0))) (Nat.le_of_ble_eq_true rfl) (Nat.le_of_ble_eq_true rfl) (xm_Rn_le (Nat.le_of_ble_eq_true rfl) (t_X11_spent  hS e10).1) ?_
  have hS := (t_X11_spent  hS e10).2
  show xm_W _ _ _ 749 _ [.int v8] _
  refine xw_G (pc' := 751) (ls' := [some (.ref 0), some (.ref 160), some (.ref 302), some (.ref 316), some (.ref 317), some (.int c5), some (.int v3), some (.int v8), none]) (st' := []) rfl rfl (Nat.le_of_ble_eq_true rfl) ?_
  refine xw_G (pc' := 752) (st' := [.ref 302]) rfl rfl trivial ?_
  refine xb_e hf (fun v11 h12 e13 hf => ?_)
  refine xw_V (v := some (.int v11)) rfl rfl (xkf (xs_k hS rfl rfl : xm_k h9 302 = (11, 0))) (Nat.le_of_ble_eq_true rfl) (Nat.le_of_ble_eq_true rfl) (xm_Rn_le (Nat.le_of_ble_eq_true rfl) (t_X11_thrown  hS e13).1) ?_
  have hS := (t_X11_thrown  hS e13).2
  show xm_W _ _ _ 755 _ [.int v11] _
  refine xw_G (pc' := 757) (st' := [.int v3, .int v11]) rfl rfl trivial ?_
  refine xj_ic_eq rfl hf (fun hc14 hf => ?_) (fun hc14 hf => ?_)
  · refine xw_G (pc' := 764) (st' := [.int v3]) rfl rfl trivial ?_
    refine xj_if_ne rfl hf (fun hc15 hf => ?_) (fun hc15 hf => ?_)
    · refine xw_G (pc' := 768) (st' := [.ref 316]) rfl rfl trivial ?_
      refine xw_G (pc' := 769) (st' := [.int (0 : Int32), .ref 316]) rfl rfl trivial ?_
      refine xa_ld (t := 104) (τ := 4) (v := .long (xm_l h12 316 0)) rfl rfl (xkf (xs_k hS rfl rfl : xm_k h12 316 = (104, 1))) (xkn (xs_k hS rfl rfl : xm_k h12 316 = (104, 1))) (by decide : xin (0 : Int32) 1) rfl ?_
      refine xw_G (pc' := 772) (st' := [.int v8, .long (xm_l h12 316 0)]) rfl rfl trivial ?_
      refine xw_G (pc' := 773) (st' := [.long (Int32.toInt64 v8), .long (xm_l h12 316 0)]) rfl rfl trivial ?_
      refine xw_G (pc' := 774) (st' := [.int (lg_cmp (xm_l h12 316 0) (Int32.toInt64 v8))]) rfl rfl trivial ?_
      refine xj_if_eq rfl hf (fun hc16 hf => ?_) (fun hc16 hf => ?_)
      · refine xw_G (pc' := 2876) (st' := []) rfl rfl trivial ?_
        refine xw_G (pc' := 2879) (ls' := [some (.ref 0), some (.ref 160), some (.ref 302), some (.ref 316), some (.ref 317), some (.int (c5 + (6 : Int32))), some (.int v3), some (.int v8), none]) (st' := []) rfl rfl (Nat.le_of_ble_eq_true rfl) ?_
        refine xw_G (pc' := 28) (st' := []) rfl rfl trivial ?_
        refine xw_M rfl rfl ?_
        exact ih _ _ ⟨_, _, hS⟩ hf
      · refine xw_G (pc' := 778) (st' := [.int (0 : Int32)]) rfl rfl trivial ?_
        exact xr_i (inj := xji) (φ := fun h => ∃ ρ δ, xS ρ δ h) rfl rfl rfl rfl hf hQ ⟨_, _, hS⟩
    · refine xw_G (pc' := 2876) (st' := []) rfl rfl trivial ?_
      refine xw_G (pc' := 2879) (ls' := [some (.ref 0), some (.ref 160), some (.ref 302), some (.ref 316), some (.ref 317), some (.int (c5 + (6 : Int32))), some (.int v3), some (.int v8), none]) (st' := []) rfl rfl (Nat.le_of_ble_eq_true rfl) ?_
      refine xw_G (pc' := 28) (st' := []) rfl rfl trivial ?_
      refine xw_M rfl rfl ?_
      exact ih _ _ ⟨_, _, hS⟩ hf
  · refine xw_G (pc' := 761) (st' := [.int (0 : Int32)]) rfl rfl trivial ?_
    exact xr_i (inj := xji) (φ := fun h => ∃ ρ δ, xS ρ δ h) rfl rfl rfl rfl hf hQ ⟨_, _, hS⟩

theorem tc_L_law_13 {N ρ δ : Nat} {Q : xm_O → xm_H → Prop} {w : Int32 × xm_H} (hQ : (∃ ρ δ, xS ρ δ w.2) → Q (xji w.1) w.2) {rec : Int32 → xm_H → Option (Int32 × xm_H)} (ih : ∀ (c5 : Int32) (h : xm_H), (∃ ρ δ, xS ρ δ h) → rec c5 h = some w → xm_W (xm_Rn xX 60) xM_L_law Q 28 [some (.ref 0), some (.ref 160), some (.ref 302), some (.ref 316), some (.ref 317), some (.int c5), none, none, none] [] h) : ∀ (c5 : Int32) (h : xm_H), xS ρ δ h → f_L_law_c13 N ρ δ rec c5 h = some w → xm_W (xm_Rn xX 60) xM_L_law Q 782 [some (.ref 0), some (.ref 160), some (.ref 302), some (.ref 316), some (.ref 317), some (.int c5), none, none, none] [] h := by
  intro c5 h hS hf
  unfold f_L_law_c13 at hf
  refine xw_G (pc' := 783) (st' := [.ref 160]) rfl rfl trivial ?_
  refine xw_G (pc' := 784) (st' := [.ref 0, .ref 160]) rfl rfl trivial ?_
  refine xw_G (pc' := 786) (st' := [.int c5, .ref 0, .ref 160]) rfl rfl trivial ?_
  refine xw_G (pc' := 787) (st' := [.int (1 : Int32), .int c5, .ref 0, .ref 160]) rfl rfl trivial ?_
  refine xw_G (pc' := 788) (st' := [.int (c5 + (1 : Int32)), .ref 0, .ref 160]) rfl rfl trivial ?_
  refine xg_e hf (fun hg1 hf => ?_)
  refine xg_e hf (fun hg2 hf => ?_)
  refine xa_ld (t := 100) (τ := 0) (v := .int (xm_i h 0 (Int32.toNatClampNeg (c5 + (1 : Int32))))) rfl rfl hg1 rfl hg2 rfl ?_
  refine xw_G (pc' := 790) (st' := [.ref 316, .int (xm_i h 0 (Int32.toNatClampNeg (c5 + (1 : Int32)))), .ref 160]) rfl rfl trivial ?_
  refine xb_e hf (fun v3 h4 e5 hf => ?_)
  refine xw_S10 (v := some (.int v3)) rfl (Nat.le_of_ble_eq_true rfl) (Nat.le_of_ble_eq_true rfl) (xm_Rn_le (Nat.le_of_ble_eq_true rfl) (t_L_plan  hS e5).1) ?_
  have hS := (t_L_plan  hS e5).2
  show xm_W _ _ _ 793 _ [.int v3] _
  refine xw_G (pc' := 795) (ls' := [some (.ref 0), some (.ref 160), some (.ref 302), some (.ref 316), some (.ref 317), some (.int c5), some (.int v3), none, none]) (st' := []) rfl rfl (Nat.le_of_ble_eq_true rfl) ?_
  refine xw_G (pc' := 796) (st' := [.ref 302]) rfl rfl trivial ?_
  refine xw_G (pc' := 797) (st' := [.ref 0, .ref 302]) rfl rfl trivial ?_
  refine xw_G (pc' := 799) (st' := [.int c5, .ref 0, .ref 302]) rfl rfl trivial ?_
  refine xw_G (pc' := 800) (st' := [.int (1 : Int32), .int c5, .ref 0, .ref 302]) rfl rfl trivial ?_
  refine xw_G (pc' := 801) (st' := [.int (c5 + (1 : Int32)), .ref 0, .ref 302]) rfl rfl trivial ?_
  refine xg_e hf (fun hg6 hf => ?_)
  refine xg_e hf (fun hg7 hf => ?_)
  refine xa_ld (t := 100) (τ := 0) (v := .int (xm_i h4 0 (Int32.toNatClampNeg (c5 + (1 : Int32))))) rfl rfl hg6 rfl hg7 rfl ?_
  refine xb_e hf (fun v8 h9 e10 hf => ?_)
  refine xw_V (v := some (.int v8)) rfl rfl (xkf (xs_k hS rfl rfl : xm_k h4 302 = (11, 0))) (Nat.le_of_ble_eq_true rfl) (Nat.le_of_ble_eq_true rfl) (xm_Rn_le (Nat.le_of_ble_eq_true rfl) (t_X11_plan  hS e10).1) ?_
  have hS := (t_X11_plan  hS e10).2
  show xm_W _ _ _ 805 _ [.int v8] _
  refine xw_G (pc' := 807) (ls' := [some (.ref 0), some (.ref 160), some (.ref 302), some (.ref 316), some (.ref 317), some (.int c5), some (.int v3), some (.int v8), none]) (st' := []) rfl rfl (Nat.le_of_ble_eq_true rfl) ?_
  refine xw_G (pc' := 808) (st' := [.ref 302]) rfl rfl trivial ?_
  refine xb_e hf (fun v11 h12 e13 hf => ?_)
  refine xw_V (v := some (.int v11)) rfl rfl (xkf (xs_k hS rfl rfl : xm_k h9 302 = (11, 0))) (Nat.le_of_ble_eq_true rfl) (Nat.le_of_ble_eq_true rfl) (xm_Rn_le (Nat.le_of_ble_eq_true rfl) (t_X11_thrown  hS e13).1) ?_
  have hS := (t_X11_thrown  hS e13).2
  show xm_W _ _ _ 811 _ [.int v11] _
  refine xw_G (pc' := 813) (st' := [.int v3, .int v11]) rfl rfl trivial ?_
  refine xj_ic_eq rfl hf (fun hc14 hf => ?_) (fun hc14 hf => ?_)
  · refine xw_G (pc' := 820) (st' := [.int v3]) rfl rfl trivial ?_
    refine xj_if_ne rfl hf (fun hc15 hf => ?_) (fun hc15 hf => ?_)
    · refine xw_G (pc' := 824) (st' := [.ref 316]) rfl rfl trivial ?_
      refine xw_G (pc' := 825) (st' := [.int (0 : Int32), .ref 316]) rfl rfl trivial ?_
      refine xa_ld (t := 104) (τ := 4) (v := .long (xm_l h12 316 0)) rfl rfl (xkf (xs_k hS rfl rfl : xm_k h12 316 = (104, 1))) (xkn (xs_k hS rfl rfl : xm_k h12 316 = (104, 1))) (by decide : xin (0 : Int32) 1) rfl ?_
      refine xw_G (pc' := 828) (st' := [.int v8, .long (xm_l h12 316 0)]) rfl rfl trivial ?_
      refine xw_G (pc' := 829) (st' := [.long (Int32.toInt64 v8), .long (xm_l h12 316 0)]) rfl rfl trivial ?_
      refine xw_G (pc' := 830) (st' := [.int (lg_cmp (xm_l h12 316 0) (Int32.toInt64 v8))]) rfl rfl trivial ?_
      refine xj_if_eq rfl hf (fun hc16 hf => ?_) (fun hc16 hf => ?_)
      · refine xw_G (pc' := 2876) (st' := []) rfl rfl trivial ?_
        refine xw_G (pc' := 2879) (ls' := [some (.ref 0), some (.ref 160), some (.ref 302), some (.ref 316), some (.ref 317), some (.int (c5 + (6 : Int32))), some (.int v3), some (.int v8), none]) (st' := []) rfl rfl (Nat.le_of_ble_eq_true rfl) ?_
        refine xw_G (pc' := 28) (st' := []) rfl rfl trivial ?_
        refine xw_M rfl rfl ?_
        exact ih _ _ ⟨_, _, hS⟩ hf
      · refine xw_G (pc' := 834) (st' := [.int (0 : Int32)]) rfl rfl trivial ?_
        exact xr_i (inj := xji) (φ := fun h => ∃ ρ δ, xS ρ δ h) rfl rfl rfl rfl hf hQ ⟨_, _, hS⟩
    · refine xw_G (pc' := 2876) (st' := []) rfl rfl trivial ?_
      refine xw_G (pc' := 2879) (ls' := [some (.ref 0), some (.ref 160), some (.ref 302), some (.ref 316), some (.ref 317), some (.int (c5 + (6 : Int32))), some (.int v3), some (.int v8), none]) (st' := []) rfl rfl (Nat.le_of_ble_eq_true rfl) ?_
      refine xw_G (pc' := 28) (st' := []) rfl rfl trivial ?_
      refine xw_M rfl rfl ?_
      exact ih _ _ ⟨_, _, hS⟩ hf
  · refine xw_G (pc' := 817) (st' := [.int (0 : Int32)]) rfl rfl trivial ?_
    exact xr_i (inj := xji) (φ := fun h => ∃ ρ δ, xS ρ δ h) rfl rfl rfl rfl hf hQ ⟨_, _, hS⟩

theorem tc_L_law_14 {N ρ δ : Nat} {Q : xm_O → xm_H → Prop} {w : Int32 × xm_H} (hQ : (∃ ρ δ, xS ρ δ w.2) → Q (xji w.1) w.2) {rec : Int32 → xm_H → Option (Int32 × xm_H)} (ih : ∀ (c5 : Int32) (h : xm_H), (∃ ρ δ, xS ρ δ h) → rec c5 h = some w → xm_W (xm_Rn xX 60) xM_L_law Q 28 [some (.ref 0), some (.ref 160), some (.ref 302), some (.ref 316), some (.ref 317), some (.int c5), none, none, none] [] h) : ∀ (c5 : Int32) (h : xm_H), xS ρ δ h → f_L_law_c14 N ρ δ rec c5 h = some w → xm_W (xm_Rn xX 60) xM_L_law Q 838 [some (.ref 0), some (.ref 160), some (.ref 302), some (.ref 316), some (.ref 317), some (.int c5), none, none, none] [] h := by
  intro c5 h hS hf
  unfold f_L_law_c14 at hf
  refine xw_G (pc' := 839) (st' := [.ref 160]) rfl rfl trivial ?_
  refine xw_G (pc' := 840) (st' := [.ref 0, .ref 160]) rfl rfl trivial ?_
  refine xw_G (pc' := 842) (st' := [.int c5, .ref 0, .ref 160]) rfl rfl trivial ?_
  refine xw_G (pc' := 843) (st' := [.int (1 : Int32), .int c5, .ref 0, .ref 160]) rfl rfl trivial ?_
  refine xw_G (pc' := 844) (st' := [.int (c5 + (1 : Int32)), .ref 0, .ref 160]) rfl rfl trivial ?_
  refine xg_e hf (fun hg1 hf => ?_)
  refine xg_e hf (fun hg2 hf => ?_)
  refine xa_ld (t := 100) (τ := 0) (v := .int (xm_i h 0 (Int32.toNatClampNeg (c5 + (1 : Int32))))) rfl rfl hg1 rfl hg2 rfl ?_
  refine xw_G (pc' := 846) (st' := [.ref 316, .int (xm_i h 0 (Int32.toNatClampNeg (c5 + (1 : Int32)))), .ref 160]) rfl rfl trivial ?_
  refine xb_e hf (fun v3 h4 e5 hf => ?_)
  refine xw_S10 (v := some (.int v3)) rfl (Nat.le_of_ble_eq_true rfl) (Nat.le_of_ble_eq_true rfl) (xm_Rn_le (Nat.le_of_ble_eq_true rfl) (t_L_mode  hS e5).1) ?_
  have hS := (t_L_mode  hS e5).2
  show xm_W _ _ _ 849 _ [.int v3] _
  refine xw_G (pc' := 851) (ls' := [some (.ref 0), some (.ref 160), some (.ref 302), some (.ref 316), some (.ref 317), some (.int c5), some (.int v3), none, none]) (st' := []) rfl rfl (Nat.le_of_ble_eq_true rfl) ?_
  refine xw_G (pc' := 852) (st' := [.ref 302]) rfl rfl trivial ?_
  refine xw_G (pc' := 853) (st' := [.ref 0, .ref 302]) rfl rfl trivial ?_
  refine xw_G (pc' := 855) (st' := [.int c5, .ref 0, .ref 302]) rfl rfl trivial ?_
  refine xw_G (pc' := 856) (st' := [.int (1 : Int32), .int c5, .ref 0, .ref 302]) rfl rfl trivial ?_
  refine xw_G (pc' := 857) (st' := [.int (c5 + (1 : Int32)), .ref 0, .ref 302]) rfl rfl trivial ?_
  refine xg_e hf (fun hg6 hf => ?_)
  refine xg_e hf (fun hg7 hf => ?_)
  refine xa_ld (t := 100) (τ := 0) (v := .int (xm_i h4 0 (Int32.toNatClampNeg (c5 + (1 : Int32))))) rfl rfl hg6 rfl hg7 rfl ?_
  refine xb_e hf (fun v8 h9 e10 hf => ?_)
  refine xw_V (v := some (.int v8)) rfl rfl (xkf (xs_k hS rfl rfl : xm_k h4 302 = (11, 0))) (Nat.le_of_ble_eq_true rfl) (Nat.le_of_ble_eq_true rfl) (xm_Rn_le (Nat.le_of_ble_eq_true rfl) (t_X11_mode  hS e10).1) ?_
  have hS := (t_X11_mode  hS e10).2
  show xm_W _ _ _ 861 _ [.int v8] _
  refine xw_G (pc' := 863) (ls' := [some (.ref 0), some (.ref 160), some (.ref 302), some (.ref 316), some (.ref 317), some (.int c5), some (.int v3), some (.int v8), none]) (st' := []) rfl rfl (Nat.le_of_ble_eq_true rfl) ?_
  refine xw_G (pc' := 864) (st' := [.ref 302]) rfl rfl trivial ?_
  refine xb_e hf (fun v11 h12 e13 hf => ?_)
  refine xw_V (v := some (.int v11)) rfl rfl (xkf (xs_k hS rfl rfl : xm_k h9 302 = (11, 0))) (Nat.le_of_ble_eq_true rfl) (Nat.le_of_ble_eq_true rfl) (xm_Rn_le (Nat.le_of_ble_eq_true rfl) (t_X11_thrown  hS e13).1) ?_
  have hS := (t_X11_thrown  hS e13).2
  show xm_W _ _ _ 867 _ [.int v11] _
  refine xw_G (pc' := 869) (st' := [.int v3, .int v11]) rfl rfl trivial ?_
  refine xj_ic_eq rfl hf (fun hc14 hf => ?_) (fun hc14 hf => ?_)
  · refine xw_G (pc' := 876) (st' := [.int v3]) rfl rfl trivial ?_
    refine xj_if_ne rfl hf (fun hc15 hf => ?_) (fun hc15 hf => ?_)
    · refine xw_G (pc' := 880) (st' := [.ref 316]) rfl rfl trivial ?_
      refine xw_G (pc' := 881) (st' := [.int (0 : Int32), .ref 316]) rfl rfl trivial ?_
      refine xa_ld (t := 104) (τ := 4) (v := .long (xm_l h12 316 0)) rfl rfl (xkf (xs_k hS rfl rfl : xm_k h12 316 = (104, 1))) (xkn (xs_k hS rfl rfl : xm_k h12 316 = (104, 1))) (by decide : xin (0 : Int32) 1) rfl ?_
      refine xw_G (pc' := 884) (st' := [.int v8, .long (xm_l h12 316 0)]) rfl rfl trivial ?_
      refine xw_G (pc' := 885) (st' := [.long (Int32.toInt64 v8), .long (xm_l h12 316 0)]) rfl rfl trivial ?_
      refine xw_G (pc' := 886) (st' := [.int (lg_cmp (xm_l h12 316 0) (Int32.toInt64 v8))]) rfl rfl trivial ?_
      refine xj_if_eq rfl hf (fun hc16 hf => ?_) (fun hc16 hf => ?_)
      · refine xw_G (pc' := 2876) (st' := []) rfl rfl trivial ?_
        refine xw_G (pc' := 2879) (ls' := [some (.ref 0), some (.ref 160), some (.ref 302), some (.ref 316), some (.ref 317), some (.int (c5 + (6 : Int32))), some (.int v3), some (.int v8), none]) (st' := []) rfl rfl (Nat.le_of_ble_eq_true rfl) ?_
        refine xw_G (pc' := 28) (st' := []) rfl rfl trivial ?_
        refine xw_M rfl rfl ?_
        exact ih _ _ ⟨_, _, hS⟩ hf
      · refine xw_G (pc' := 890) (st' := [.int (0 : Int32)]) rfl rfl trivial ?_
        exact xr_i (inj := xji) (φ := fun h => ∃ ρ δ, xS ρ δ h) rfl rfl rfl rfl hf hQ ⟨_, _, hS⟩
    · refine xw_G (pc' := 2876) (st' := []) rfl rfl trivial ?_
      refine xw_G (pc' := 2879) (ls' := [some (.ref 0), some (.ref 160), some (.ref 302), some (.ref 316), some (.ref 317), some (.int (c5 + (6 : Int32))), some (.int v3), some (.int v8), none]) (st' := []) rfl rfl (Nat.le_of_ble_eq_true rfl) ?_
      refine xw_G (pc' := 28) (st' := []) rfl rfl trivial ?_
      refine xw_M rfl rfl ?_
      exact ih _ _ ⟨_, _, hS⟩ hf
  · refine xw_G (pc' := 873) (st' := [.int (0 : Int32)]) rfl rfl trivial ?_
    exact xr_i (inj := xji) (φ := fun h => ∃ ρ δ, xS ρ δ h) rfl rfl rfl rfl hf hQ ⟨_, _, hS⟩

theorem tc_L_law_15 {N ρ δ : Nat} {Q : xm_O → xm_H → Prop} {w : Int32 × xm_H} (hQ : (∃ ρ δ, xS ρ δ w.2) → Q (xji w.1) w.2) {rec : Int32 → xm_H → Option (Int32 × xm_H)} (ih : ∀ (c5 : Int32) (h : xm_H), (∃ ρ δ, xS ρ δ h) → rec c5 h = some w → xm_W (xm_Rn xX 60) xM_L_law Q 28 [some (.ref 0), some (.ref 160), some (.ref 302), some (.ref 316), some (.ref 317), some (.int c5), none, none, none] [] h) : ∀ (c5 : Int32) (h : xm_H), xS ρ δ h → f_L_law_c15 N ρ δ rec c5 h = some w → xm_W (xm_Rn xX 60) xM_L_law Q 894 [some (.ref 0), some (.ref 160), some (.ref 302), some (.ref 316), some (.ref 317), some (.int c5), none, none, none] [] h := by
  intro c5 h hS hf
  unfold f_L_law_c15 at hf
  refine xw_G (pc' := 895) (st' := [.ref 160]) rfl rfl trivial ?_
  refine xb_e hf (fun v1 h2 e3 hf => ?_)
  refine xw_V (v := some (.int v1)) rfl rfl (xkf (xs_k hS rfl rfl : xm_k h 160 = (0, 0))) (Nat.le_of_ble_eq_true rfl) (Nat.le_of_ble_eq_true rfl) (xm_Rn_le (Nat.le_of_ble_eq_true rfl) (t_X10_tick  hS e3).1) ?_
  have hS := (t_X10_tick  hS e3).2
  show xm_W _ _ _ 898 _ [.int v1] _
  refine xw_G (pc' := 899) (st' := [.ref 302, .int v1]) rfl rfl trivial ?_
  refine xb_e hf (fun v4 h5 e6 hf => ?_)
  refine xw_V (v := some (.int v4)) rfl rfl (xkf (xs_k hS rfl rfl : xm_k h2 302 = (11, 0))) (Nat.le_of_ble_eq_true rfl) (Nat.le_of_ble_eq_true rfl) (xm_Rn_le (Nat.le_of_ble_eq_true rfl) (t_X11_tick  hS e6).1) ?_
  have hS := (t_X11_tick  hS e6).2
  show xm_W _ _ _ 902 _ [.int v4, .int v1] _
  refine xj_ic_eq rfl hf (fun hc7 hf => ?_) (fun hc7 hf => ?_)
  · refine xw_G (pc' := 2879) (ls' := [some (.ref 0), some (.ref 160), some (.ref 302), some (.ref 316), some (.ref 317), some (.int (c5 + (6 : Int32))), none, none, none]) (st' := []) rfl rfl (Nat.le_of_ble_eq_true rfl) ?_
    refine xw_G (pc' := 28) (st' := []) rfl rfl trivial ?_
    refine xw_M rfl rfl ?_
    exact ih _ _ ⟨_, _, hS⟩ hf
  · refine xw_G (pc' := 906) (st' := [.int (0 : Int32)]) rfl rfl trivial ?_
    exact xr_i (inj := xji) (φ := fun h => ∃ ρ δ, xS ρ δ h) rfl rfl rfl rfl hf hQ ⟨_, _, hS⟩

theorem tc_L_law_16 {N ρ δ : Nat} {Q : xm_O → xm_H → Prop} {w : Int32 × xm_H} (hQ : (∃ ρ δ, xS ρ δ w.2) → Q (xji w.1) w.2) {rec : Int32 → xm_H → Option (Int32 × xm_H)} (ih : ∀ (c5 : Int32) (h : xm_H), (∃ ρ δ, xS ρ δ h) → rec c5 h = some w → xm_W (xm_Rn xX 60) xM_L_law Q 28 [some (.ref 0), some (.ref 160), some (.ref 302), some (.ref 316), some (.ref 317), some (.int c5), none, none, none] [] h) : ∀ (c5 : Int32) (h : xm_H), xS ρ δ h → f_L_law_c16 N ρ δ rec c5 h = some w → xm_W (xm_Rn xX 60) xM_L_law Q 907 [some (.ref 0), some (.ref 160), some (.ref 302), some (.ref 316), some (.ref 317), some (.int c5), none, none, none] [] h := by
  intro c5 h hS hf
  unfold f_L_law_c16 at hf
  refine xw_G (pc' := 908) (st' := [.ref 160]) rfl rfl trivial ?_
  refine xw_G (pc' := 909) (st' := [.ref 0, .ref 160]) rfl rfl trivial ?_
  refine xw_G (pc' := 911) (st' := [.int c5, .ref 0, .ref 160]) rfl rfl trivial ?_
  refine xw_G (pc' := 912) (st' := [.int (1 : Int32), .int c5, .ref 0, .ref 160]) rfl rfl trivial ?_
  refine xw_G (pc' := 913) (st' := [.int (c5 + (1 : Int32)), .ref 0, .ref 160]) rfl rfl trivial ?_
  refine xg_e hf (fun hg1 hf => ?_)
  refine xg_e hf (fun hg2 hf => ?_)
  refine xa_ld (t := 100) (τ := 0) (v := .int (xm_i h 0 (Int32.toNatClampNeg (c5 + (1 : Int32))))) rfl rfl hg1 rfl hg2 rfl ?_
  refine xw_G (pc' := 915) (st' := [.ref 0, .int (xm_i h 0 (Int32.toNatClampNeg (c5 + (1 : Int32)))), .ref 160]) rfl rfl trivial ?_
  refine xw_G (pc' := 917) (st' := [.int c5, .ref 0, .int (xm_i h 0 (Int32.toNatClampNeg (c5 + (1 : Int32)))), .ref 160]) rfl rfl trivial ?_
  refine xw_G (pc' := 918) (st' := [.int (2 : Int32), .int c5, .ref 0, .int (xm_i h 0 (Int32.toNatClampNeg (c5 + (1 : Int32)))), .ref 160]) rfl rfl trivial ?_
  refine xw_G (pc' := 919) (st' := [.int (c5 + (2 : Int32)), .ref 0, .int (xm_i h 0 (Int32.toNatClampNeg (c5 + (1 : Int32)))), .ref 160]) rfl rfl trivial ?_
  refine xg_e hf (fun hg3 hf => ?_)
  refine xa_ld (t := 100) (τ := 0) (v := .int (xm_i h 0 (Int32.toNatClampNeg (c5 + (2 : Int32))))) rfl rfl hg1 rfl hg3 rfl ?_
  refine xw_G (pc' := 921) (st' := [.ref 0, .int (xm_i h 0 (Int32.toNatClampNeg (c5 + (2 : Int32)))), .int (xm_i h 0 (Int32.toNatClampNeg (c5 + (1 : Int32)))), .ref 160]) rfl rfl trivial ?_
  refine xw_G (pc' := 923) (st' := [.int c5, .ref 0, .int (xm_i h 0 (Int32.toNatClampNeg (c5 + (2 : Int32)))), .int (xm_i h 0 (Int32.toNatClampNeg (c5 + (1 : Int32)))), .ref 160]) rfl rfl trivial ?_
  refine xw_G (pc' := 924) (st' := [.int (3 : Int32), .int c5, .ref 0, .int (xm_i h 0 (Int32.toNatClampNeg (c5 + (2 : Int32)))), .int (xm_i h 0 (Int32.toNatClampNeg (c5 + (1 : Int32)))), .ref 160]) rfl rfl trivial ?_
  refine xw_G (pc' := 925) (st' := [.int (c5 + (3 : Int32)), .ref 0, .int (xm_i h 0 (Int32.toNatClampNeg (c5 + (2 : Int32)))), .int (xm_i h 0 (Int32.toNatClampNeg (c5 + (1 : Int32)))), .ref 160]) rfl rfl trivial ?_
  refine xg_e hf (fun hg4 hf => ?_)
  refine xa_ld (t := 100) (τ := 0) (v := .int (xm_i h 0 (Int32.toNatClampNeg (c5 + (3 : Int32))))) rfl rfl hg1 rfl hg4 rfl ?_
  refine xw_G (pc' := 927) (st' := [.ref 316, .int (xm_i h 0 (Int32.toNatClampNeg (c5 + (3 : Int32)))), .int (xm_i h 0 (Int32.toNatClampNeg (c5 + (2 : Int32)))), .int (xm_i h 0 (Int32.toNatClampNeg (c5 + (1 : Int32)))), .ref 160]) rfl rfl trivial ?_
  refine xb_e hf (fun v5 h6 e7 hf => ?_)
  refine xw_S10 (v := some (.int v5)) rfl (Nat.le_of_ble_eq_true rfl) (Nat.le_of_ble_eq_true rfl) (xm_Rn_le (Nat.le_of_ble_eq_true rfl) (t_L_refusal  hS e7).1) ?_
  have hS := (t_L_refusal  hS e7).2
  show xm_W _ _ _ 930 _ [.int v5] _
  refine xw_G (pc' := 932) (ls' := [some (.ref 0), some (.ref 160), some (.ref 302), some (.ref 316), some (.ref 317), some (.int c5), some (.int v5), none, none]) (st' := []) rfl rfl (Nat.le_of_ble_eq_true rfl) ?_
  refine xw_G (pc' := 933) (st' := [.ref 302]) rfl rfl trivial ?_
  refine xw_G (pc' := 934) (st' := [.ref 0, .ref 302]) rfl rfl trivial ?_
  refine xw_G (pc' := 936) (st' := [.int c5, .ref 0, .ref 302]) rfl rfl trivial ?_
  refine xw_G (pc' := 937) (st' := [.int (1 : Int32), .int c5, .ref 0, .ref 302]) rfl rfl trivial ?_
  refine xw_G (pc' := 938) (st' := [.int (c5 + (1 : Int32)), .ref 0, .ref 302]) rfl rfl trivial ?_
  refine xg_e hf (fun hg8 hf => ?_)
  refine xg_e hf (fun hg9 hf => ?_)
  refine xa_ld (t := 100) (τ := 0) (v := .int (xm_i h6 0 (Int32.toNatClampNeg (c5 + (1 : Int32))))) rfl rfl hg8 rfl hg9 rfl ?_
  refine xw_G (pc' := 940) (st' := [.ref 0, .int (xm_i h6 0 (Int32.toNatClampNeg (c5 + (1 : Int32)))), .ref 302]) rfl rfl trivial ?_
  refine xw_G (pc' := 942) (st' := [.int c5, .ref 0, .int (xm_i h6 0 (Int32.toNatClampNeg (c5 + (1 : Int32)))), .ref 302]) rfl rfl trivial ?_
  refine xw_G (pc' := 943) (st' := [.int (2 : Int32), .int c5, .ref 0, .int (xm_i h6 0 (Int32.toNatClampNeg (c5 + (1 : Int32)))), .ref 302]) rfl rfl trivial ?_
  refine xw_G (pc' := 944) (st' := [.int (c5 + (2 : Int32)), .ref 0, .int (xm_i h6 0 (Int32.toNatClampNeg (c5 + (1 : Int32)))), .ref 302]) rfl rfl trivial ?_
  refine xg_e hf (fun hg10 hf => ?_)
  refine xa_ld (t := 100) (τ := 0) (v := .int (xm_i h6 0 (Int32.toNatClampNeg (c5 + (2 : Int32))))) rfl rfl hg8 rfl hg10 rfl ?_
  refine xw_G (pc' := 946) (st' := [.ref 0, .int (xm_i h6 0 (Int32.toNatClampNeg (c5 + (2 : Int32)))), .int (xm_i h6 0 (Int32.toNatClampNeg (c5 + (1 : Int32)))), .ref 302]) rfl rfl trivial ?_
  refine xw_G (pc' := 948) (st' := [.int c5, .ref 0, .int (xm_i h6 0 (Int32.toNatClampNeg (c5 + (2 : Int32)))), .int (xm_i h6 0 (Int32.toNatClampNeg (c5 + (1 : Int32)))), .ref 302]) rfl rfl trivial ?_
  refine xw_G (pc' := 949) (st' := [.int (3 : Int32), .int c5, .ref 0, .int (xm_i h6 0 (Int32.toNatClampNeg (c5 + (2 : Int32)))), .int (xm_i h6 0 (Int32.toNatClampNeg (c5 + (1 : Int32)))), .ref 302]) rfl rfl trivial ?_
  refine xw_G (pc' := 950) (st' := [.int (c5 + (3 : Int32)), .ref 0, .int (xm_i h6 0 (Int32.toNatClampNeg (c5 + (2 : Int32)))), .int (xm_i h6 0 (Int32.toNatClampNeg (c5 + (1 : Int32)))), .ref 302]) rfl rfl trivial ?_
  refine xg_e hf (fun hg11 hf => ?_)
  refine xa_ld (t := 100) (τ := 0) (v := .int (xm_i h6 0 (Int32.toNatClampNeg (c5 + (3 : Int32))))) rfl rfl hg8 rfl hg11 rfl ?_
  refine xb_e hf (fun v12 h13 e14 hf => ?_)
  refine xw_V (v := some (.int v12)) rfl rfl (xkf (xs_k hS rfl rfl : xm_k h6 302 = (11, 0))) (Nat.le_of_ble_eq_true rfl) (Nat.le_of_ble_eq_true rfl) (xm_Rn_le (Nat.le_of_ble_eq_true rfl) (t_X11_refusal  hS e14).1) ?_
  have hS := (t_X11_refusal  hS e14).2
  show xm_W _ _ _ 954 _ [.int v12] _
  refine xw_G (pc' := 956) (ls' := [some (.ref 0), some (.ref 160), some (.ref 302), some (.ref 316), some (.ref 317), some (.int c5), some (.int v5), some (.int v12), none]) (st' := []) rfl rfl (Nat.le_of_ble_eq_true rfl) ?_
  refine xw_G (pc' := 957) (st' := [.ref 302]) rfl rfl trivial ?_
  refine xb_e hf (fun v15 h16 e17 hf => ?_)
  refine xw_V (v := some (.int v15)) rfl rfl (xkf (xs_k hS rfl rfl : xm_k h13 302 = (11, 0))) (Nat.le_of_ble_eq_true rfl) (Nat.le_of_ble_eq_true rfl) (xm_Rn_le (Nat.le_of_ble_eq_true rfl) (t_X11_thrown  hS e17).1) ?_
  have hS := (t_X11_thrown  hS e17).2
  show xm_W _ _ _ 960 _ [.int v15] _
  refine xw_G (pc' := 962) (st' := [.int v5, .int v15]) rfl rfl trivial ?_
  refine xj_ic_eq rfl hf (fun hc18 hf => ?_) (fun hc18 hf => ?_)
  · refine xw_G (pc' := 969) (st' := [.int v5]) rfl rfl trivial ?_
    refine xj_if_ne rfl hf (fun hc19 hf => ?_) (fun hc19 hf => ?_)
    · refine xw_G (pc' := 973) (st' := [.ref 316]) rfl rfl trivial ?_
      refine xw_G (pc' := 974) (st' := [.int (0 : Int32), .ref 316]) rfl rfl trivial ?_
      refine xa_ld (t := 104) (τ := 4) (v := .long (xm_l h16 316 0)) rfl rfl (xkf (xs_k hS rfl rfl : xm_k h16 316 = (104, 1))) (xkn (xs_k hS rfl rfl : xm_k h16 316 = (104, 1))) (by decide : xin (0 : Int32) 1) rfl ?_
      refine xw_G (pc' := 977) (st' := [.int v12, .long (xm_l h16 316 0)]) rfl rfl trivial ?_
      refine xw_G (pc' := 978) (st' := [.long (Int32.toInt64 v12), .long (xm_l h16 316 0)]) rfl rfl trivial ?_
      refine xw_G (pc' := 979) (st' := [.int (lg_cmp (xm_l h16 316 0) (Int32.toInt64 v12))]) rfl rfl trivial ?_
      refine xj_if_eq rfl hf (fun hc20 hf => ?_) (fun hc20 hf => ?_)
      · refine xw_G (pc' := 2876) (st' := []) rfl rfl trivial ?_
        refine xw_G (pc' := 2879) (ls' := [some (.ref 0), some (.ref 160), some (.ref 302), some (.ref 316), some (.ref 317), some (.int (c5 + (6 : Int32))), some (.int v5), some (.int v12), none]) (st' := []) rfl rfl (Nat.le_of_ble_eq_true rfl) ?_
        refine xw_G (pc' := 28) (st' := []) rfl rfl trivial ?_
        refine xw_M rfl rfl ?_
        exact ih _ _ ⟨_, _, hS⟩ hf
      · refine xw_G (pc' := 983) (st' := [.int (0 : Int32)]) rfl rfl trivial ?_
        exact xr_i (inj := xji) (φ := fun h => ∃ ρ δ, xS ρ δ h) rfl rfl rfl rfl hf hQ ⟨_, _, hS⟩
    · refine xw_G (pc' := 2876) (st' := []) rfl rfl trivial ?_
      refine xw_G (pc' := 2879) (ls' := [some (.ref 0), some (.ref 160), some (.ref 302), some (.ref 316), some (.ref 317), some (.int (c5 + (6 : Int32))), some (.int v5), some (.int v12), none]) (st' := []) rfl rfl (Nat.le_of_ble_eq_true rfl) ?_
      refine xw_G (pc' := 28) (st' := []) rfl rfl trivial ?_
      refine xw_M rfl rfl ?_
      exact ih _ _ ⟨_, _, hS⟩ hf
  · refine xw_G (pc' := 966) (st' := [.int (0 : Int32)]) rfl rfl trivial ?_
    exact xr_i (inj := xji) (φ := fun h => ∃ ρ δ, xS ρ δ h) rfl rfl rfl rfl hf hQ ⟨_, _, hS⟩

theorem tc_L_law_17 {N ρ δ : Nat} {Q : xm_O → xm_H → Prop} {w : Int32 × xm_H} (hQ : (∃ ρ δ, xS ρ δ w.2) → Q (xji w.1) w.2) {rec : Int32 → xm_H → Option (Int32 × xm_H)} (ih : ∀ (c5 : Int32) (h : xm_H), (∃ ρ δ, xS ρ δ h) → rec c5 h = some w → xm_W (xm_Rn xX 60) xM_L_law Q 28 [some (.ref 0), some (.ref 160), some (.ref 302), some (.ref 316), some (.ref 317), some (.int c5), none, none, none] [] h) : ∀ (c5 : Int32) (h : xm_H), xS ρ δ h → f_L_law_c17 N ρ δ rec c5 h = some w → xm_W (xm_Rn xX 60) xM_L_law Q 987 [some (.ref 0), some (.ref 160), some (.ref 302), some (.ref 316), some (.ref 317), some (.int c5), none, none, none] [] h := by
  intro c5 h hS hf
  unfold f_L_law_c17 at hf
  refine xw_G (pc' := 988) (st' := [.ref 160]) rfl rfl trivial ?_
  refine xw_G (pc' := 989) (st' := [.ref 0, .ref 160]) rfl rfl trivial ?_
  refine xw_G (pc' := 991) (st' := [.int c5, .ref 0, .ref 160]) rfl rfl trivial ?_
  refine xw_G (pc' := 992) (st' := [.int (1 : Int32), .int c5, .ref 0, .ref 160]) rfl rfl trivial ?_
  refine xw_G (pc' := 993) (st' := [.int (c5 + (1 : Int32)), .ref 0, .ref 160]) rfl rfl trivial ?_
  refine xg_e hf (fun hg1 hf => ?_)
  refine xg_e hf (fun hg2 hf => ?_)
  refine xa_ld (t := 100) (τ := 0) (v := .int (xm_i h 0 (Int32.toNatClampNeg (c5 + (1 : Int32))))) rfl rfl hg1 rfl hg2 rfl ?_
  refine xw_G (pc' := 995) (st' := [.ref 0, .int (xm_i h 0 (Int32.toNatClampNeg (c5 + (1 : Int32)))), .ref 160]) rfl rfl trivial ?_
  refine xw_G (pc' := 997) (st' := [.int c5, .ref 0, .int (xm_i h 0 (Int32.toNatClampNeg (c5 + (1 : Int32)))), .ref 160]) rfl rfl trivial ?_
  refine xw_G (pc' := 998) (st' := [.int (2 : Int32), .int c5, .ref 0, .int (xm_i h 0 (Int32.toNatClampNeg (c5 + (1 : Int32)))), .ref 160]) rfl rfl trivial ?_
  refine xw_G (pc' := 999) (st' := [.int (c5 + (2 : Int32)), .ref 0, .int (xm_i h 0 (Int32.toNatClampNeg (c5 + (1 : Int32)))), .ref 160]) rfl rfl trivial ?_
  refine xg_e hf (fun hg3 hf => ?_)
  refine xa_ld (t := 100) (τ := 0) (v := .int (xm_i h 0 (Int32.toNatClampNeg (c5 + (2 : Int32))))) rfl rfl hg1 rfl hg3 rfl ?_
  refine xw_G (pc' := 1001) (st' := [.ref 0, .int (xm_i h 0 (Int32.toNatClampNeg (c5 + (2 : Int32)))), .int (xm_i h 0 (Int32.toNatClampNeg (c5 + (1 : Int32)))), .ref 160]) rfl rfl trivial ?_
  refine xw_G (pc' := 1003) (st' := [.int c5, .ref 0, .int (xm_i h 0 (Int32.toNatClampNeg (c5 + (2 : Int32)))), .int (xm_i h 0 (Int32.toNatClampNeg (c5 + (1 : Int32)))), .ref 160]) rfl rfl trivial ?_
  refine xw_G (pc' := 1004) (st' := [.int (3 : Int32), .int c5, .ref 0, .int (xm_i h 0 (Int32.toNatClampNeg (c5 + (2 : Int32)))), .int (xm_i h 0 (Int32.toNatClampNeg (c5 + (1 : Int32)))), .ref 160]) rfl rfl trivial ?_
  refine xw_G (pc' := 1005) (st' := [.int (c5 + (3 : Int32)), .ref 0, .int (xm_i h 0 (Int32.toNatClampNeg (c5 + (2 : Int32)))), .int (xm_i h 0 (Int32.toNatClampNeg (c5 + (1 : Int32)))), .ref 160]) rfl rfl trivial ?_
  refine xg_e hf (fun hg4 hf => ?_)
  refine xa_ld (t := 100) (τ := 0) (v := .int (xm_i h 0 (Int32.toNatClampNeg (c5 + (3 : Int32))))) rfl rfl hg1 rfl hg4 rfl ?_
  refine xw_G (pc' := 1007) (st' := [.ref 316, .int (xm_i h 0 (Int32.toNatClampNeg (c5 + (3 : Int32)))), .int (xm_i h 0 (Int32.toNatClampNeg (c5 + (2 : Int32)))), .int (xm_i h 0 (Int32.toNatClampNeg (c5 + (1 : Int32)))), .ref 160]) rfl rfl trivial ?_
  refine xb_e hf (fun v5 h6 e7 hf => ?_)
  refine xw_S10 (v := some (.int v5)) rfl (Nat.le_of_ble_eq_true rfl) (Nat.le_of_ble_eq_true rfl) (xm_Rn_le (Nat.le_of_ble_eq_true rfl) (t_L_ranked  hS e7).1) ?_
  have hS := (t_L_ranked  hS e7).2
  show xm_W _ _ _ 1010 _ [.int v5] _
  refine xw_G (pc' := 1012) (ls' := [some (.ref 0), some (.ref 160), some (.ref 302), some (.ref 316), some (.ref 317), some (.int c5), some (.int v5), none, none]) (st' := []) rfl rfl (Nat.le_of_ble_eq_true rfl) ?_
  refine xw_G (pc' := 1013) (st' := [.ref 302]) rfl rfl trivial ?_
  refine xw_G (pc' := 1014) (st' := [.ref 0, .ref 302]) rfl rfl trivial ?_
  refine xw_G (pc' := 1016) (st' := [.int c5, .ref 0, .ref 302]) rfl rfl trivial ?_
  refine xw_G (pc' := 1017) (st' := [.int (1 : Int32), .int c5, .ref 0, .ref 302]) rfl rfl trivial ?_
  refine xw_G (pc' := 1018) (st' := [.int (c5 + (1 : Int32)), .ref 0, .ref 302]) rfl rfl trivial ?_
  refine xg_e hf (fun hg8 hf => ?_)
  refine xg_e hf (fun hg9 hf => ?_)
  refine xa_ld (t := 100) (τ := 0) (v := .int (xm_i h6 0 (Int32.toNatClampNeg (c5 + (1 : Int32))))) rfl rfl hg8 rfl hg9 rfl ?_
  refine xw_G (pc' := 1020) (st' := [.ref 0, .int (xm_i h6 0 (Int32.toNatClampNeg (c5 + (1 : Int32)))), .ref 302]) rfl rfl trivial ?_
  refine xw_G (pc' := 1022) (st' := [.int c5, .ref 0, .int (xm_i h6 0 (Int32.toNatClampNeg (c5 + (1 : Int32)))), .ref 302]) rfl rfl trivial ?_
  refine xw_G (pc' := 1023) (st' := [.int (2 : Int32), .int c5, .ref 0, .int (xm_i h6 0 (Int32.toNatClampNeg (c5 + (1 : Int32)))), .ref 302]) rfl rfl trivial ?_
  refine xw_G (pc' := 1024) (st' := [.int (c5 + (2 : Int32)), .ref 0, .int (xm_i h6 0 (Int32.toNatClampNeg (c5 + (1 : Int32)))), .ref 302]) rfl rfl trivial ?_
  refine xg_e hf (fun hg10 hf => ?_)
  refine xa_ld (t := 100) (τ := 0) (v := .int (xm_i h6 0 (Int32.toNatClampNeg (c5 + (2 : Int32))))) rfl rfl hg8 rfl hg10 rfl ?_
  refine xw_G (pc' := 1026) (st' := [.ref 0, .int (xm_i h6 0 (Int32.toNatClampNeg (c5 + (2 : Int32)))), .int (xm_i h6 0 (Int32.toNatClampNeg (c5 + (1 : Int32)))), .ref 302]) rfl rfl trivial ?_
  refine xw_G (pc' := 1028) (st' := [.int c5, .ref 0, .int (xm_i h6 0 (Int32.toNatClampNeg (c5 + (2 : Int32)))), .int (xm_i h6 0 (Int32.toNatClampNeg (c5 + (1 : Int32)))), .ref 302]) rfl rfl trivial ?_
  refine xw_G (pc' := 1029) (st' := [.int (3 : Int32), .int c5, .ref 0, .int (xm_i h6 0 (Int32.toNatClampNeg (c5 + (2 : Int32)))), .int (xm_i h6 0 (Int32.toNatClampNeg (c5 + (1 : Int32)))), .ref 302]) rfl rfl trivial ?_
  refine xw_G (pc' := 1030) (st' := [.int (c5 + (3 : Int32)), .ref 0, .int (xm_i h6 0 (Int32.toNatClampNeg (c5 + (2 : Int32)))), .int (xm_i h6 0 (Int32.toNatClampNeg (c5 + (1 : Int32)))), .ref 302]) rfl rfl trivial ?_
  refine xg_e hf (fun hg11 hf => ?_)
  refine xa_ld (t := 100) (τ := 0) (v := .int (xm_i h6 0 (Int32.toNatClampNeg (c5 + (3 : Int32))))) rfl rfl hg8 rfl hg11 rfl ?_
  refine xb_e hf (fun v12 h13 e14 hf => ?_)
  refine xw_V (v := some (.int v12)) rfl rfl (xkf (xs_k hS rfl rfl : xm_k h6 302 = (11, 0))) (Nat.le_of_ble_eq_true rfl) (Nat.le_of_ble_eq_true rfl) (xm_Rn_le (Nat.le_of_ble_eq_true rfl) (t_X11_ranked  hS e14).1) ?_
  have hS := (t_X11_ranked  hS e14).2
  show xm_W _ _ _ 1034 _ [.int v12] _
  refine xw_G (pc' := 1036) (ls' := [some (.ref 0), some (.ref 160), some (.ref 302), some (.ref 316), some (.ref 317), some (.int c5), some (.int v5), some (.int v12), none]) (st' := []) rfl rfl (Nat.le_of_ble_eq_true rfl) ?_
  refine xw_G (pc' := 1037) (st' := [.ref 302]) rfl rfl trivial ?_
  refine xb_e hf (fun v15 h16 e17 hf => ?_)
  refine xw_V (v := some (.int v15)) rfl rfl (xkf (xs_k hS rfl rfl : xm_k h13 302 = (11, 0))) (Nat.le_of_ble_eq_true rfl) (Nat.le_of_ble_eq_true rfl) (xm_Rn_le (Nat.le_of_ble_eq_true rfl) (t_X11_thrown  hS e17).1) ?_
  have hS := (t_X11_thrown  hS e17).2
  show xm_W _ _ _ 1040 _ [.int v15] _
  refine xw_G (pc' := 1042) (st' := [.int v5, .int v15]) rfl rfl trivial ?_
  refine xj_ic_eq rfl hf (fun hc18 hf => ?_) (fun hc18 hf => ?_)
  · refine xw_G (pc' := 1049) (st' := [.int v5]) rfl rfl trivial ?_
    refine xj_if_ne rfl hf (fun hc19 hf => ?_) (fun hc19 hf => ?_)
    · refine xw_G (pc' := 1053) (st' := [.ref 316]) rfl rfl trivial ?_
      refine xw_G (pc' := 1054) (st' := [.int (0 : Int32), .ref 316]) rfl rfl trivial ?_
      refine xa_ld (t := 104) (τ := 4) (v := .long (xm_l h16 316 0)) rfl rfl (xkf (xs_k hS rfl rfl : xm_k h16 316 = (104, 1))) (xkn (xs_k hS rfl rfl : xm_k h16 316 = (104, 1))) (by decide : xin (0 : Int32) 1) rfl ?_
      refine xw_G (pc' := 1057) (st' := [.int v12, .long (xm_l h16 316 0)]) rfl rfl trivial ?_
      refine xw_G (pc' := 1058) (st' := [.long (Int32.toInt64 v12), .long (xm_l h16 316 0)]) rfl rfl trivial ?_
      refine xw_G (pc' := 1059) (st' := [.int (lg_cmp (xm_l h16 316 0) (Int32.toInt64 v12))]) rfl rfl trivial ?_
      refine xj_if_eq rfl hf (fun hc20 hf => ?_) (fun hc20 hf => ?_)
      · refine xw_G (pc' := 2876) (st' := []) rfl rfl trivial ?_
        refine xw_G (pc' := 2879) (ls' := [some (.ref 0), some (.ref 160), some (.ref 302), some (.ref 316), some (.ref 317), some (.int (c5 + (6 : Int32))), some (.int v5), some (.int v12), none]) (st' := []) rfl rfl (Nat.le_of_ble_eq_true rfl) ?_
        refine xw_G (pc' := 28) (st' := []) rfl rfl trivial ?_
        refine xw_M rfl rfl ?_
        exact ih _ _ ⟨_, _, hS⟩ hf
      · refine xw_G (pc' := 1063) (st' := [.int (0 : Int32)]) rfl rfl trivial ?_
        exact xr_i (inj := xji) (φ := fun h => ∃ ρ δ, xS ρ δ h) rfl rfl rfl rfl hf hQ ⟨_, _, hS⟩
    · refine xw_G (pc' := 2876) (st' := []) rfl rfl trivial ?_
      refine xw_G (pc' := 2879) (ls' := [some (.ref 0), some (.ref 160), some (.ref 302), some (.ref 316), some (.ref 317), some (.int (c5 + (6 : Int32))), some (.int v5), some (.int v12), none]) (st' := []) rfl rfl (Nat.le_of_ble_eq_true rfl) ?_
      refine xw_G (pc' := 28) (st' := []) rfl rfl trivial ?_
      refine xw_M rfl rfl ?_
      exact ih _ _ ⟨_, _, hS⟩ hf
  · refine xw_G (pc' := 1046) (st' := [.int (0 : Int32)]) rfl rfl trivial ?_
    exact xr_i (inj := xji) (φ := fun h => ∃ ρ δ, xS ρ δ h) rfl rfl rfl rfl hf hQ ⟨_, _, hS⟩

theorem tc_L_law_18 {N ρ δ : Nat} {Q : xm_O → xm_H → Prop} {w : Int32 × xm_H} (hQ : (∃ ρ δ, xS ρ δ w.2) → Q (xji w.1) w.2) {rec : Int32 → xm_H → Option (Int32 × xm_H)} (ih : ∀ (c5 : Int32) (h : xm_H), (∃ ρ δ, xS ρ δ h) → rec c5 h = some w → xm_W (xm_Rn xX 60) xM_L_law Q 28 [some (.ref 0), some (.ref 160), some (.ref 302), some (.ref 316), some (.ref 317), some (.int c5), none, none, none] [] h) : ∀ (c5 : Int32) (h : xm_H), xS ρ δ h → f_L_law_c18 N ρ δ rec c5 h = some w → xm_W (xm_Rn xX 60) xM_L_law Q 1067 [some (.ref 0), some (.ref 160), some (.ref 302), some (.ref 316), some (.ref 317), some (.int c5), none, none, none] [] h := by
  intro c5 h hS hf
  unfold f_L_law_c18 at hf
  refine xw_G (pc' := 1068) (st' := [.ref 160]) rfl rfl trivial ?_
  refine xw_G (pc' := 1069) (st' := [.ref 0, .ref 160]) rfl rfl trivial ?_
  refine xw_G (pc' := 1071) (st' := [.int c5, .ref 0, .ref 160]) rfl rfl trivial ?_
  refine xw_G (pc' := 1072) (st' := [.int (1 : Int32), .int c5, .ref 0, .ref 160]) rfl rfl trivial ?_
  refine xw_G (pc' := 1073) (st' := [.int (c5 + (1 : Int32)), .ref 0, .ref 160]) rfl rfl trivial ?_
  refine xg_e hf (fun hg1 hf => ?_)
  refine xg_e hf (fun hg2 hf => ?_)
  refine xa_ld (t := 100) (τ := 0) (v := .int (xm_i h 0 (Int32.toNatClampNeg (c5 + (1 : Int32))))) rfl rfl hg1 rfl hg2 rfl ?_
  refine xw_G (pc' := 1075) (st' := [.ref 0, .int (xm_i h 0 (Int32.toNatClampNeg (c5 + (1 : Int32)))), .ref 160]) rfl rfl trivial ?_
  refine xw_G (pc' := 1077) (st' := [.int c5, .ref 0, .int (xm_i h 0 (Int32.toNatClampNeg (c5 + (1 : Int32)))), .ref 160]) rfl rfl trivial ?_
  refine xw_G (pc' := 1078) (st' := [.int (2 : Int32), .int c5, .ref 0, .int (xm_i h 0 (Int32.toNatClampNeg (c5 + (1 : Int32)))), .ref 160]) rfl rfl trivial ?_
  refine xw_G (pc' := 1079) (st' := [.int (c5 + (2 : Int32)), .ref 0, .int (xm_i h 0 (Int32.toNatClampNeg (c5 + (1 : Int32)))), .ref 160]) rfl rfl trivial ?_
  refine xg_e hf (fun hg3 hf => ?_)
  refine xa_ld (t := 100) (τ := 0) (v := .int (xm_i h 0 (Int32.toNatClampNeg (c5 + (2 : Int32))))) rfl rfl hg1 rfl hg3 rfl ?_
  refine xw_G (pc' := 1081) (st' := [.ref 0, .int (xm_i h 0 (Int32.toNatClampNeg (c5 + (2 : Int32)))), .int (xm_i h 0 (Int32.toNatClampNeg (c5 + (1 : Int32)))), .ref 160]) rfl rfl trivial ?_
  refine xw_G (pc' := 1083) (st' := [.int c5, .ref 0, .int (xm_i h 0 (Int32.toNatClampNeg (c5 + (2 : Int32)))), .int (xm_i h 0 (Int32.toNatClampNeg (c5 + (1 : Int32)))), .ref 160]) rfl rfl trivial ?_
  refine xw_G (pc' := 1084) (st' := [.int (3 : Int32), .int c5, .ref 0, .int (xm_i h 0 (Int32.toNatClampNeg (c5 + (2 : Int32)))), .int (xm_i h 0 (Int32.toNatClampNeg (c5 + (1 : Int32)))), .ref 160]) rfl rfl trivial ?_
  refine xw_G (pc' := 1085) (st' := [.int (c5 + (3 : Int32)), .ref 0, .int (xm_i h 0 (Int32.toNatClampNeg (c5 + (2 : Int32)))), .int (xm_i h 0 (Int32.toNatClampNeg (c5 + (1 : Int32)))), .ref 160]) rfl rfl trivial ?_
  refine xg_e hf (fun hg4 hf => ?_)
  refine xa_ld (t := 100) (τ := 0) (v := .int (xm_i h 0 (Int32.toNatClampNeg (c5 + (3 : Int32))))) rfl rfl hg1 rfl hg4 rfl ?_
  refine xw_G (pc' := 1087) (st' := [.ref 316, .int (xm_i h 0 (Int32.toNatClampNeg (c5 + (3 : Int32)))), .int (xm_i h 0 (Int32.toNatClampNeg (c5 + (2 : Int32)))), .int (xm_i h 0 (Int32.toNatClampNeg (c5 + (1 : Int32)))), .ref 160]) rfl rfl trivial ?_
  refine xb_e hf (fun v5 h6 e7 hf => ?_)
  refine xw_S10 (v := some (.int v5)) rfl (Nat.le_of_ble_eq_true rfl) (Nat.le_of_ble_eq_true rfl) (xm_Rn_le (Nat.le_of_ble_eq_true rfl) (t_L_winner  hS e7).1) ?_
  have hS := (t_L_winner  hS e7).2
  show xm_W _ _ _ 1090 _ [.int v5] _
  refine xw_G (pc' := 1092) (ls' := [some (.ref 0), some (.ref 160), some (.ref 302), some (.ref 316), some (.ref 317), some (.int c5), some (.int v5), none, none]) (st' := []) rfl rfl (Nat.le_of_ble_eq_true rfl) ?_
  refine xw_G (pc' := 1093) (st' := [.ref 302]) rfl rfl trivial ?_
  refine xw_G (pc' := 1094) (st' := [.ref 0, .ref 302]) rfl rfl trivial ?_
  refine xw_G (pc' := 1096) (st' := [.int c5, .ref 0, .ref 302]) rfl rfl trivial ?_
  refine xw_G (pc' := 1097) (st' := [.int (1 : Int32), .int c5, .ref 0, .ref 302]) rfl rfl trivial ?_
  refine xw_G (pc' := 1098) (st' := [.int (c5 + (1 : Int32)), .ref 0, .ref 302]) rfl rfl trivial ?_
  refine xg_e hf (fun hg8 hf => ?_)
  refine xg_e hf (fun hg9 hf => ?_)
  refine xa_ld (t := 100) (τ := 0) (v := .int (xm_i h6 0 (Int32.toNatClampNeg (c5 + (1 : Int32))))) rfl rfl hg8 rfl hg9 rfl ?_
  refine xw_G (pc' := 1100) (st' := [.ref 0, .int (xm_i h6 0 (Int32.toNatClampNeg (c5 + (1 : Int32)))), .ref 302]) rfl rfl trivial ?_
  refine xw_G (pc' := 1102) (st' := [.int c5, .ref 0, .int (xm_i h6 0 (Int32.toNatClampNeg (c5 + (1 : Int32)))), .ref 302]) rfl rfl trivial ?_
  refine xw_G (pc' := 1103) (st' := [.int (2 : Int32), .int c5, .ref 0, .int (xm_i h6 0 (Int32.toNatClampNeg (c5 + (1 : Int32)))), .ref 302]) rfl rfl trivial ?_
  refine xw_G (pc' := 1104) (st' := [.int (c5 + (2 : Int32)), .ref 0, .int (xm_i h6 0 (Int32.toNatClampNeg (c5 + (1 : Int32)))), .ref 302]) rfl rfl trivial ?_
  refine xg_e hf (fun hg10 hf => ?_)
  refine xa_ld (t := 100) (τ := 0) (v := .int (xm_i h6 0 (Int32.toNatClampNeg (c5 + (2 : Int32))))) rfl rfl hg8 rfl hg10 rfl ?_
  refine xw_G (pc' := 1106) (st' := [.ref 0, .int (xm_i h6 0 (Int32.toNatClampNeg (c5 + (2 : Int32)))), .int (xm_i h6 0 (Int32.toNatClampNeg (c5 + (1 : Int32)))), .ref 302]) rfl rfl trivial ?_
  refine xw_G (pc' := 1108) (st' := [.int c5, .ref 0, .int (xm_i h6 0 (Int32.toNatClampNeg (c5 + (2 : Int32)))), .int (xm_i h6 0 (Int32.toNatClampNeg (c5 + (1 : Int32)))), .ref 302]) rfl rfl trivial ?_
  refine xw_G (pc' := 1109) (st' := [.int (3 : Int32), .int c5, .ref 0, .int (xm_i h6 0 (Int32.toNatClampNeg (c5 + (2 : Int32)))), .int (xm_i h6 0 (Int32.toNatClampNeg (c5 + (1 : Int32)))), .ref 302]) rfl rfl trivial ?_
  refine xw_G (pc' := 1110) (st' := [.int (c5 + (3 : Int32)), .ref 0, .int (xm_i h6 0 (Int32.toNatClampNeg (c5 + (2 : Int32)))), .int (xm_i h6 0 (Int32.toNatClampNeg (c5 + (1 : Int32)))), .ref 302]) rfl rfl trivial ?_
  refine xg_e hf (fun hg11 hf => ?_)
  refine xa_ld (t := 100) (τ := 0) (v := .int (xm_i h6 0 (Int32.toNatClampNeg (c5 + (3 : Int32))))) rfl rfl hg8 rfl hg11 rfl ?_
  refine xb_e hf (fun v12 h13 e14 hf => ?_)
  refine xw_V (v := some (.int v12)) rfl rfl (xkf (xs_k hS rfl rfl : xm_k h6 302 = (11, 0))) (Nat.le_of_ble_eq_true rfl) (Nat.le_of_ble_eq_true rfl) (xm_Rn_le (Nat.le_of_ble_eq_true rfl) (t_X11_winner  hS e14).1) ?_
  have hS := (t_X11_winner  hS e14).2
  show xm_W _ _ _ 1114 _ [.int v12] _
  refine xw_G (pc' := 1116) (ls' := [some (.ref 0), some (.ref 160), some (.ref 302), some (.ref 316), some (.ref 317), some (.int c5), some (.int v5), some (.int v12), none]) (st' := []) rfl rfl (Nat.le_of_ble_eq_true rfl) ?_
  refine xw_G (pc' := 1117) (st' := [.ref 302]) rfl rfl trivial ?_
  refine xb_e hf (fun v15 h16 e17 hf => ?_)
  refine xw_V (v := some (.int v15)) rfl rfl (xkf (xs_k hS rfl rfl : xm_k h13 302 = (11, 0))) (Nat.le_of_ble_eq_true rfl) (Nat.le_of_ble_eq_true rfl) (xm_Rn_le (Nat.le_of_ble_eq_true rfl) (t_X11_thrown  hS e17).1) ?_
  have hS := (t_X11_thrown  hS e17).2
  show xm_W _ _ _ 1120 _ [.int v15] _
  refine xw_G (pc' := 1122) (st' := [.int v5, .int v15]) rfl rfl trivial ?_
  refine xj_ic_eq rfl hf (fun hc18 hf => ?_) (fun hc18 hf => ?_)
  · refine xw_G (pc' := 1129) (st' := [.int v5]) rfl rfl trivial ?_
    refine xj_if_ne rfl hf (fun hc19 hf => ?_) (fun hc19 hf => ?_)
    · refine xw_G (pc' := 1133) (st' := [.ref 316]) rfl rfl trivial ?_
      refine xw_G (pc' := 1134) (st' := [.int (0 : Int32), .ref 316]) rfl rfl trivial ?_
      refine xa_ld (t := 104) (τ := 4) (v := .long (xm_l h16 316 0)) rfl rfl (xkf (xs_k hS rfl rfl : xm_k h16 316 = (104, 1))) (xkn (xs_k hS rfl rfl : xm_k h16 316 = (104, 1))) (by decide : xin (0 : Int32) 1) rfl ?_
      refine xw_G (pc' := 1137) (st' := [.int v12, .long (xm_l h16 316 0)]) rfl rfl trivial ?_
      refine xw_G (pc' := 1138) (st' := [.long (Int32.toInt64 v12), .long (xm_l h16 316 0)]) rfl rfl trivial ?_
      refine xw_G (pc' := 1139) (st' := [.int (lg_cmp (xm_l h16 316 0) (Int32.toInt64 v12))]) rfl rfl trivial ?_
      refine xj_if_eq rfl hf (fun hc20 hf => ?_) (fun hc20 hf => ?_)
      · refine xw_G (pc' := 2876) (st' := []) rfl rfl trivial ?_
        refine xw_G (pc' := 2879) (ls' := [some (.ref 0), some (.ref 160), some (.ref 302), some (.ref 316), some (.ref 317), some (.int (c5 + (6 : Int32))), some (.int v5), some (.int v12), none]) (st' := []) rfl rfl (Nat.le_of_ble_eq_true rfl) ?_
        refine xw_G (pc' := 28) (st' := []) rfl rfl trivial ?_
        refine xw_M rfl rfl ?_
        exact ih _ _ ⟨_, _, hS⟩ hf
      · refine xw_G (pc' := 1143) (st' := [.int (0 : Int32)]) rfl rfl trivial ?_
        exact xr_i (inj := xji) (φ := fun h => ∃ ρ δ, xS ρ δ h) rfl rfl rfl rfl hf hQ ⟨_, _, hS⟩
    · refine xw_G (pc' := 2876) (st' := []) rfl rfl trivial ?_
      refine xw_G (pc' := 2879) (ls' := [some (.ref 0), some (.ref 160), some (.ref 302), some (.ref 316), some (.ref 317), some (.int (c5 + (6 : Int32))), some (.int v5), some (.int v12), none]) (st' := []) rfl rfl (Nat.le_of_ble_eq_true rfl) ?_
      refine xw_G (pc' := 28) (st' := []) rfl rfl trivial ?_
      refine xw_M rfl rfl ?_
      exact ih _ _ ⟨_, _, hS⟩ hf
  · refine xw_G (pc' := 1126) (st' := [.int (0 : Int32)]) rfl rfl trivial ?_
    exact xr_i (inj := xji) (φ := fun h => ∃ ρ δ, xS ρ δ h) rfl rfl rfl rfl hf hQ ⟨_, _, hS⟩

theorem tc_L_law_19 {N ρ δ : Nat} {Q : xm_O → xm_H → Prop} {w : Int32 × xm_H} (hQ : (∃ ρ δ, xS ρ δ w.2) → Q (xji w.1) w.2) {rec : Int32 → xm_H → Option (Int32 × xm_H)} (ih : ∀ (c5 : Int32) (h : xm_H), (∃ ρ δ, xS ρ δ h) → rec c5 h = some w → xm_W (xm_Rn xX 60) xM_L_law Q 28 [some (.ref 0), some (.ref 160), some (.ref 302), some (.ref 316), some (.ref 317), some (.int c5), none, none, none] [] h) : ∀ (c5 : Int32) (h : xm_H), xS ρ δ h → f_L_law_c19 N ρ δ rec c5 h = some w → xm_W (xm_Rn xX 60) xM_L_law Q 1147 [some (.ref 0), some (.ref 160), some (.ref 302), some (.ref 316), some (.ref 317), some (.int c5), none, none, none] [] h := by
  intro c5 h hS hf
  unfold f_L_law_c19 at hf
  refine xw_G (pc' := 1148) (st' := [.ref 160]) rfl rfl trivial ?_
  refine xw_G (pc' := 1149) (st' := [.ref 0, .ref 160]) rfl rfl trivial ?_
  refine xw_G (pc' := 1151) (st' := [.int c5, .ref 0, .ref 160]) rfl rfl trivial ?_
  refine xw_G (pc' := 1152) (st' := [.int (1 : Int32), .int c5, .ref 0, .ref 160]) rfl rfl trivial ?_
  refine xw_G (pc' := 1153) (st' := [.int (c5 + (1 : Int32)), .ref 0, .ref 160]) rfl rfl trivial ?_
  refine xg_e hf (fun hg1 hf => ?_)
  refine xg_e hf (fun hg2 hf => ?_)
  refine xa_ld (t := 100) (τ := 0) (v := .int (xm_i h 0 (Int32.toNatClampNeg (c5 + (1 : Int32))))) rfl rfl hg1 rfl hg2 rfl ?_
  refine xw_G (pc' := 1155) (st' := [.ref 0, .int (xm_i h 0 (Int32.toNatClampNeg (c5 + (1 : Int32)))), .ref 160]) rfl rfl trivial ?_
  refine xw_G (pc' := 1157) (st' := [.int c5, .ref 0, .int (xm_i h 0 (Int32.toNatClampNeg (c5 + (1 : Int32)))), .ref 160]) rfl rfl trivial ?_
  refine xw_G (pc' := 1158) (st' := [.int (2 : Int32), .int c5, .ref 0, .int (xm_i h 0 (Int32.toNatClampNeg (c5 + (1 : Int32)))), .ref 160]) rfl rfl trivial ?_
  refine xw_G (pc' := 1159) (st' := [.int (c5 + (2 : Int32)), .ref 0, .int (xm_i h 0 (Int32.toNatClampNeg (c5 + (1 : Int32)))), .ref 160]) rfl rfl trivial ?_
  refine xg_e hf (fun hg3 hf => ?_)
  refine xa_ld (t := 100) (τ := 0) (v := .int (xm_i h 0 (Int32.toNatClampNeg (c5 + (2 : Int32))))) rfl rfl hg1 rfl hg3 rfl ?_
  refine xw_G (pc' := 1161) (st' := [.ref 0, .int (xm_i h 0 (Int32.toNatClampNeg (c5 + (2 : Int32)))), .int (xm_i h 0 (Int32.toNatClampNeg (c5 + (1 : Int32)))), .ref 160]) rfl rfl trivial ?_
  refine xw_G (pc' := 1163) (st' := [.int c5, .ref 0, .int (xm_i h 0 (Int32.toNatClampNeg (c5 + (2 : Int32)))), .int (xm_i h 0 (Int32.toNatClampNeg (c5 + (1 : Int32)))), .ref 160]) rfl rfl trivial ?_
  refine xw_G (pc' := 1164) (st' := [.int (3 : Int32), .int c5, .ref 0, .int (xm_i h 0 (Int32.toNatClampNeg (c5 + (2 : Int32)))), .int (xm_i h 0 (Int32.toNatClampNeg (c5 + (1 : Int32)))), .ref 160]) rfl rfl trivial ?_
  refine xw_G (pc' := 1165) (st' := [.int (c5 + (3 : Int32)), .ref 0, .int (xm_i h 0 (Int32.toNatClampNeg (c5 + (2 : Int32)))), .int (xm_i h 0 (Int32.toNatClampNeg (c5 + (1 : Int32)))), .ref 160]) rfl rfl trivial ?_
  refine xg_e hf (fun hg4 hf => ?_)
  refine xa_ld (t := 100) (τ := 0) (v := .int (xm_i h 0 (Int32.toNatClampNeg (c5 + (3 : Int32))))) rfl rfl hg1 rfl hg4 rfl ?_
  refine xw_G (pc' := 1167) (st' := [.ref 316, .int (xm_i h 0 (Int32.toNatClampNeg (c5 + (3 : Int32)))), .int (xm_i h 0 (Int32.toNatClampNeg (c5 + (2 : Int32)))), .int (xm_i h 0 (Int32.toNatClampNeg (c5 + (1 : Int32)))), .ref 160]) rfl rfl trivial ?_
  refine xb_e hf (fun v5 h6 e7 hf => ?_)
  refine xw_S10 (v := some (.int v5)) rfl (Nat.le_of_ble_eq_true rfl) (Nat.le_of_ble_eq_true rfl) (xm_Rn_le (Nat.le_of_ble_eq_true rfl) (t_L_price  hS e7).1) ?_
  have hS := (t_L_price  hS e7).2
  show xm_W _ _ _ 1170 _ [.int v5] _
  refine xw_G (pc' := 1172) (ls' := [some (.ref 0), some (.ref 160), some (.ref 302), some (.ref 316), some (.ref 317), some (.int c5), some (.int v5), none, none]) (st' := []) rfl rfl (Nat.le_of_ble_eq_true rfl) ?_
  refine xw_G (pc' := 1173) (st' := [.ref 302]) rfl rfl trivial ?_
  refine xw_G (pc' := 1174) (st' := [.ref 0, .ref 302]) rfl rfl trivial ?_
  refine xw_G (pc' := 1176) (st' := [.int c5, .ref 0, .ref 302]) rfl rfl trivial ?_
  refine xw_G (pc' := 1177) (st' := [.int (1 : Int32), .int c5, .ref 0, .ref 302]) rfl rfl trivial ?_
  refine xw_G (pc' := 1178) (st' := [.int (c5 + (1 : Int32)), .ref 0, .ref 302]) rfl rfl trivial ?_
  refine xg_e hf (fun hg8 hf => ?_)
  refine xg_e hf (fun hg9 hf => ?_)
  refine xa_ld (t := 100) (τ := 0) (v := .int (xm_i h6 0 (Int32.toNatClampNeg (c5 + (1 : Int32))))) rfl rfl hg8 rfl hg9 rfl ?_
  refine xw_G (pc' := 1180) (st' := [.ref 0, .int (xm_i h6 0 (Int32.toNatClampNeg (c5 + (1 : Int32)))), .ref 302]) rfl rfl trivial ?_
  refine xw_G (pc' := 1182) (st' := [.int c5, .ref 0, .int (xm_i h6 0 (Int32.toNatClampNeg (c5 + (1 : Int32)))), .ref 302]) rfl rfl trivial ?_
  refine xw_G (pc' := 1183) (st' := [.int (2 : Int32), .int c5, .ref 0, .int (xm_i h6 0 (Int32.toNatClampNeg (c5 + (1 : Int32)))), .ref 302]) rfl rfl trivial ?_
  refine xw_G (pc' := 1184) (st' := [.int (c5 + (2 : Int32)), .ref 0, .int (xm_i h6 0 (Int32.toNatClampNeg (c5 + (1 : Int32)))), .ref 302]) rfl rfl trivial ?_
  refine xg_e hf (fun hg10 hf => ?_)
  refine xa_ld (t := 100) (τ := 0) (v := .int (xm_i h6 0 (Int32.toNatClampNeg (c5 + (2 : Int32))))) rfl rfl hg8 rfl hg10 rfl ?_
  refine xw_G (pc' := 1186) (st' := [.ref 0, .int (xm_i h6 0 (Int32.toNatClampNeg (c5 + (2 : Int32)))), .int (xm_i h6 0 (Int32.toNatClampNeg (c5 + (1 : Int32)))), .ref 302]) rfl rfl trivial ?_
  refine xw_G (pc' := 1188) (st' := [.int c5, .ref 0, .int (xm_i h6 0 (Int32.toNatClampNeg (c5 + (2 : Int32)))), .int (xm_i h6 0 (Int32.toNatClampNeg (c5 + (1 : Int32)))), .ref 302]) rfl rfl trivial ?_
  refine xw_G (pc' := 1189) (st' := [.int (3 : Int32), .int c5, .ref 0, .int (xm_i h6 0 (Int32.toNatClampNeg (c5 + (2 : Int32)))), .int (xm_i h6 0 (Int32.toNatClampNeg (c5 + (1 : Int32)))), .ref 302]) rfl rfl trivial ?_
  refine xw_G (pc' := 1190) (st' := [.int (c5 + (3 : Int32)), .ref 0, .int (xm_i h6 0 (Int32.toNatClampNeg (c5 + (2 : Int32)))), .int (xm_i h6 0 (Int32.toNatClampNeg (c5 + (1 : Int32)))), .ref 302]) rfl rfl trivial ?_
  refine xg_e hf (fun hg11 hf => ?_)
  refine xa_ld (t := 100) (τ := 0) (v := .int (xm_i h6 0 (Int32.toNatClampNeg (c5 + (3 : Int32))))) rfl rfl hg8 rfl hg11 rfl ?_
  refine xb_e hf (fun v12 h13 e14 hf => ?_)
  refine xw_V (v := some (.int v12)) rfl rfl (xkf (xs_k hS rfl rfl : xm_k h6 302 = (11, 0))) (Nat.le_of_ble_eq_true rfl) (Nat.le_of_ble_eq_true rfl) (xm_Rn_le (Nat.le_of_ble_eq_true rfl) (t_X11_price  hS e14).1) ?_
  have hS := (t_X11_price  hS e14).2
  show xm_W _ _ _ 1194 _ [.int v12] _
  refine xw_G (pc' := 1196) (ls' := [some (.ref 0), some (.ref 160), some (.ref 302), some (.ref 316), some (.ref 317), some (.int c5), some (.int v5), some (.int v12), none]) (st' := []) rfl rfl (Nat.le_of_ble_eq_true rfl) ?_
  refine xw_G (pc' := 1197) (st' := [.ref 302]) rfl rfl trivial ?_
  refine xb_e hf (fun v15 h16 e17 hf => ?_)
  refine xw_V (v := some (.int v15)) rfl rfl (xkf (xs_k hS rfl rfl : xm_k h13 302 = (11, 0))) (Nat.le_of_ble_eq_true rfl) (Nat.le_of_ble_eq_true rfl) (xm_Rn_le (Nat.le_of_ble_eq_true rfl) (t_X11_thrown  hS e17).1) ?_
  have hS := (t_X11_thrown  hS e17).2
  show xm_W _ _ _ 1200 _ [.int v15] _
  refine xw_G (pc' := 1202) (st' := [.int v5, .int v15]) rfl rfl trivial ?_
  refine xj_ic_eq rfl hf (fun hc18 hf => ?_) (fun hc18 hf => ?_)
  · refine xw_G (pc' := 1209) (st' := [.int v5]) rfl rfl trivial ?_
    refine xj_if_ne rfl hf (fun hc19 hf => ?_) (fun hc19 hf => ?_)
    · refine xw_G (pc' := 1213) (st' := [.ref 316]) rfl rfl trivial ?_
      refine xw_G (pc' := 1214) (st' := [.int (0 : Int32), .ref 316]) rfl rfl trivial ?_
      refine xa_ld (t := 104) (τ := 4) (v := .long (xm_l h16 316 0)) rfl rfl (xkf (xs_k hS rfl rfl : xm_k h16 316 = (104, 1))) (xkn (xs_k hS rfl rfl : xm_k h16 316 = (104, 1))) (by decide : xin (0 : Int32) 1) rfl ?_
      refine xw_G (pc' := 1217) (st' := [.int v12, .long (xm_l h16 316 0)]) rfl rfl trivial ?_
      refine xw_G (pc' := 1218) (st' := [.long (Int32.toInt64 v12), .long (xm_l h16 316 0)]) rfl rfl trivial ?_
      refine xw_G (pc' := 1219) (st' := [.int (lg_cmp (xm_l h16 316 0) (Int32.toInt64 v12))]) rfl rfl trivial ?_
      refine xj_if_eq rfl hf (fun hc20 hf => ?_) (fun hc20 hf => ?_)
      · refine xw_G (pc' := 2876) (st' := []) rfl rfl trivial ?_
        refine xw_G (pc' := 2879) (ls' := [some (.ref 0), some (.ref 160), some (.ref 302), some (.ref 316), some (.ref 317), some (.int (c5 + (6 : Int32))), some (.int v5), some (.int v12), none]) (st' := []) rfl rfl (Nat.le_of_ble_eq_true rfl) ?_
        refine xw_G (pc' := 28) (st' := []) rfl rfl trivial ?_
        refine xw_M rfl rfl ?_
        exact ih _ _ ⟨_, _, hS⟩ hf
      · refine xw_G (pc' := 1223) (st' := [.int (0 : Int32)]) rfl rfl trivial ?_
        exact xr_i (inj := xji) (φ := fun h => ∃ ρ δ, xS ρ δ h) rfl rfl rfl rfl hf hQ ⟨_, _, hS⟩
    · refine xw_G (pc' := 2876) (st' := []) rfl rfl trivial ?_
      refine xw_G (pc' := 2879) (ls' := [some (.ref 0), some (.ref 160), some (.ref 302), some (.ref 316), some (.ref 317), some (.int (c5 + (6 : Int32))), some (.int v5), some (.int v12), none]) (st' := []) rfl rfl (Nat.le_of_ble_eq_true rfl) ?_
      refine xw_G (pc' := 28) (st' := []) rfl rfl trivial ?_
      refine xw_M rfl rfl ?_
      exact ih _ _ ⟨_, _, hS⟩ hf
  · refine xw_G (pc' := 1206) (st' := [.int (0 : Int32)]) rfl rfl trivial ?_
    exact xr_i (inj := xji) (φ := fun h => ∃ ρ δ, xS ρ δ h) rfl rfl rfl rfl hf hQ ⟨_, _, hS⟩

theorem tc_L_law_20 {N ρ δ : Nat} {Q : xm_O → xm_H → Prop} {w : Int32 × xm_H} (hQ : (∃ ρ δ, xS ρ δ w.2) → Q (xji w.1) w.2) {rec : Int32 → xm_H → Option (Int32 × xm_H)} (ih : ∀ (c5 : Int32) (h : xm_H), (∃ ρ δ, xS ρ δ h) → rec c5 h = some w → xm_W (xm_Rn xX 60) xM_L_law Q 28 [some (.ref 0), some (.ref 160), some (.ref 302), some (.ref 316), some (.ref 317), some (.int c5), none, none, none] [] h) : ∀ (c5 : Int32) (h : xm_H), xS ρ δ h → f_L_law_c20 N ρ δ rec c5 h = some w → xm_W (xm_Rn xX 60) xM_L_law Q 1227 [some (.ref 0), some (.ref 160), some (.ref 302), some (.ref 316), some (.ref 317), some (.int c5), none, none, none] [] h := by
  intro c5 h hS hf
  unfold f_L_law_c20 at hf
  refine xw_G (pc' := 1228) (st' := [.ref 160]) rfl rfl trivial ?_
  refine xw_G (pc' := 1229) (st' := [.ref 0, .ref 160]) rfl rfl trivial ?_
  refine xw_G (pc' := 1231) (st' := [.int c5, .ref 0, .ref 160]) rfl rfl trivial ?_
  refine xw_G (pc' := 1232) (st' := [.int (1 : Int32), .int c5, .ref 0, .ref 160]) rfl rfl trivial ?_
  refine xw_G (pc' := 1233) (st' := [.int (c5 + (1 : Int32)), .ref 0, .ref 160]) rfl rfl trivial ?_
  refine xg_e hf (fun hg1 hf => ?_)
  refine xg_e hf (fun hg2 hf => ?_)
  refine xa_ld (t := 100) (τ := 0) (v := .int (xm_i h 0 (Int32.toNatClampNeg (c5 + (1 : Int32))))) rfl rfl hg1 rfl hg2 rfl ?_
  refine xw_G (pc' := 1235) (st' := [.ref 0, .int (xm_i h 0 (Int32.toNatClampNeg (c5 + (1 : Int32)))), .ref 160]) rfl rfl trivial ?_
  refine xw_G (pc' := 1237) (st' := [.int c5, .ref 0, .int (xm_i h 0 (Int32.toNatClampNeg (c5 + (1 : Int32)))), .ref 160]) rfl rfl trivial ?_
  refine xw_G (pc' := 1238) (st' := [.int (2 : Int32), .int c5, .ref 0, .int (xm_i h 0 (Int32.toNatClampNeg (c5 + (1 : Int32)))), .ref 160]) rfl rfl trivial ?_
  refine xw_G (pc' := 1239) (st' := [.int (c5 + (2 : Int32)), .ref 0, .int (xm_i h 0 (Int32.toNatClampNeg (c5 + (1 : Int32)))), .ref 160]) rfl rfl trivial ?_
  refine xg_e hf (fun hg3 hf => ?_)
  refine xa_ld (t := 100) (τ := 0) (v := .int (xm_i h 0 (Int32.toNatClampNeg (c5 + (2 : Int32))))) rfl rfl hg1 rfl hg3 rfl ?_
  refine xw_G (pc' := 1241) (st' := [.ref 0, .int (xm_i h 0 (Int32.toNatClampNeg (c5 + (2 : Int32)))), .int (xm_i h 0 (Int32.toNatClampNeg (c5 + (1 : Int32)))), .ref 160]) rfl rfl trivial ?_
  refine xw_G (pc' := 1243) (st' := [.int c5, .ref 0, .int (xm_i h 0 (Int32.toNatClampNeg (c5 + (2 : Int32)))), .int (xm_i h 0 (Int32.toNatClampNeg (c5 + (1 : Int32)))), .ref 160]) rfl rfl trivial ?_
  refine xw_G (pc' := 1244) (st' := [.int (3 : Int32), .int c5, .ref 0, .int (xm_i h 0 (Int32.toNatClampNeg (c5 + (2 : Int32)))), .int (xm_i h 0 (Int32.toNatClampNeg (c5 + (1 : Int32)))), .ref 160]) rfl rfl trivial ?_
  refine xw_G (pc' := 1245) (st' := [.int (c5 + (3 : Int32)), .ref 0, .int (xm_i h 0 (Int32.toNatClampNeg (c5 + (2 : Int32)))), .int (xm_i h 0 (Int32.toNatClampNeg (c5 + (1 : Int32)))), .ref 160]) rfl rfl trivial ?_
  refine xg_e hf (fun hg4 hf => ?_)
  refine xa_ld (t := 100) (τ := 0) (v := .int (xm_i h 0 (Int32.toNatClampNeg (c5 + (3 : Int32))))) rfl rfl hg1 rfl hg4 rfl ?_
  refine xw_G (pc' := 1247) (st' := [.ref 0, .int (xm_i h 0 (Int32.toNatClampNeg (c5 + (3 : Int32)))), .int (xm_i h 0 (Int32.toNatClampNeg (c5 + (2 : Int32)))), .int (xm_i h 0 (Int32.toNatClampNeg (c5 + (1 : Int32)))), .ref 160]) rfl rfl trivial ?_
  refine xw_G (pc' := 1249) (st' := [.int c5, .ref 0, .int (xm_i h 0 (Int32.toNatClampNeg (c5 + (3 : Int32)))), .int (xm_i h 0 (Int32.toNatClampNeg (c5 + (2 : Int32)))), .int (xm_i h 0 (Int32.toNatClampNeg (c5 + (1 : Int32)))), .ref 160]) rfl rfl trivial ?_
  refine xw_G (pc' := 1250) (st' := [.int (4 : Int32), .int c5, .ref 0, .int (xm_i h 0 (Int32.toNatClampNeg (c5 + (3 : Int32)))), .int (xm_i h 0 (Int32.toNatClampNeg (c5 + (2 : Int32)))), .int (xm_i h 0 (Int32.toNatClampNeg (c5 + (1 : Int32)))), .ref 160]) rfl rfl trivial ?_
  refine xw_G (pc' := 1251) (st' := [.int (c5 + (4 : Int32)), .ref 0, .int (xm_i h 0 (Int32.toNatClampNeg (c5 + (3 : Int32)))), .int (xm_i h 0 (Int32.toNatClampNeg (c5 + (2 : Int32)))), .int (xm_i h 0 (Int32.toNatClampNeg (c5 + (1 : Int32)))), .ref 160]) rfl rfl trivial ?_
  refine xg_e hf (fun hg5 hf => ?_)
  refine xa_ld (t := 100) (τ := 0) (v := .int (xm_i h 0 (Int32.toNatClampNeg (c5 + (4 : Int32))))) rfl rfl hg1 rfl hg5 rfl ?_
  refine xw_G (pc' := 1253) (st' := [.ref 316, .int (xm_i h 0 (Int32.toNatClampNeg (c5 + (4 : Int32)))), .int (xm_i h 0 (Int32.toNatClampNeg (c5 + (3 : Int32)))), .int (xm_i h 0 (Int32.toNatClampNeg (c5 + (2 : Int32)))), .int (xm_i h 0 (Int32.toNatClampNeg (c5 + (1 : Int32)))), .ref 160]) rfl rfl trivial ?_
  refine xb_e hf (fun v6 h7 e8 hf => ?_)
  refine xw_S10 (v := some (.int v6)) rfl (Nat.le_of_ble_eq_true rfl) (Nat.le_of_ble_eq_true rfl) (xm_Rn_le (Nat.le_of_ble_eq_true rfl) (t_L_leastBid  hS e8).1) ?_
  have hS := (t_L_leastBid  hS e8).2
  show xm_W _ _ _ 1256 _ [.int v6] _
  refine xw_G (pc' := 1258) (ls' := [some (.ref 0), some (.ref 160), some (.ref 302), some (.ref 316), some (.ref 317), some (.int c5), some (.int v6), none, none]) (st' := []) rfl rfl (Nat.le_of_ble_eq_true rfl) ?_
  refine xw_G (pc' := 1259) (st' := [.ref 302]) rfl rfl trivial ?_
  refine xw_G (pc' := 1260) (st' := [.ref 0, .ref 302]) rfl rfl trivial ?_
  refine xw_G (pc' := 1262) (st' := [.int c5, .ref 0, .ref 302]) rfl rfl trivial ?_
  refine xw_G (pc' := 1263) (st' := [.int (1 : Int32), .int c5, .ref 0, .ref 302]) rfl rfl trivial ?_
  refine xw_G (pc' := 1264) (st' := [.int (c5 + (1 : Int32)), .ref 0, .ref 302]) rfl rfl trivial ?_
  refine xg_e hf (fun hg9 hf => ?_)
  refine xg_e hf (fun hg10 hf => ?_)
  refine xa_ld (t := 100) (τ := 0) (v := .int (xm_i h7 0 (Int32.toNatClampNeg (c5 + (1 : Int32))))) rfl rfl hg9 rfl hg10 rfl ?_
  refine xw_G (pc' := 1266) (st' := [.ref 0, .int (xm_i h7 0 (Int32.toNatClampNeg (c5 + (1 : Int32)))), .ref 302]) rfl rfl trivial ?_
  refine xw_G (pc' := 1268) (st' := [.int c5, .ref 0, .int (xm_i h7 0 (Int32.toNatClampNeg (c5 + (1 : Int32)))), .ref 302]) rfl rfl trivial ?_
  refine xw_G (pc' := 1269) (st' := [.int (2 : Int32), .int c5, .ref 0, .int (xm_i h7 0 (Int32.toNatClampNeg (c5 + (1 : Int32)))), .ref 302]) rfl rfl trivial ?_
  refine xw_G (pc' := 1270) (st' := [.int (c5 + (2 : Int32)), .ref 0, .int (xm_i h7 0 (Int32.toNatClampNeg (c5 + (1 : Int32)))), .ref 302]) rfl rfl trivial ?_
  refine xg_e hf (fun hg11 hf => ?_)
  refine xa_ld (t := 100) (τ := 0) (v := .int (xm_i h7 0 (Int32.toNatClampNeg (c5 + (2 : Int32))))) rfl rfl hg9 rfl hg11 rfl ?_
  refine xw_G (pc' := 1272) (st' := [.ref 0, .int (xm_i h7 0 (Int32.toNatClampNeg (c5 + (2 : Int32)))), .int (xm_i h7 0 (Int32.toNatClampNeg (c5 + (1 : Int32)))), .ref 302]) rfl rfl trivial ?_
  refine xw_G (pc' := 1274) (st' := [.int c5, .ref 0, .int (xm_i h7 0 (Int32.toNatClampNeg (c5 + (2 : Int32)))), .int (xm_i h7 0 (Int32.toNatClampNeg (c5 + (1 : Int32)))), .ref 302]) rfl rfl trivial ?_
  refine xw_G (pc' := 1275) (st' := [.int (3 : Int32), .int c5, .ref 0, .int (xm_i h7 0 (Int32.toNatClampNeg (c5 + (2 : Int32)))), .int (xm_i h7 0 (Int32.toNatClampNeg (c5 + (1 : Int32)))), .ref 302]) rfl rfl trivial ?_
  refine xw_G (pc' := 1276) (st' := [.int (c5 + (3 : Int32)), .ref 0, .int (xm_i h7 0 (Int32.toNatClampNeg (c5 + (2 : Int32)))), .int (xm_i h7 0 (Int32.toNatClampNeg (c5 + (1 : Int32)))), .ref 302]) rfl rfl trivial ?_
  refine xg_e hf (fun hg12 hf => ?_)
  refine xa_ld (t := 100) (τ := 0) (v := .int (xm_i h7 0 (Int32.toNatClampNeg (c5 + (3 : Int32))))) rfl rfl hg9 rfl hg12 rfl ?_
  refine xw_G (pc' := 1278) (st' := [.ref 0, .int (xm_i h7 0 (Int32.toNatClampNeg (c5 + (3 : Int32)))), .int (xm_i h7 0 (Int32.toNatClampNeg (c5 + (2 : Int32)))), .int (xm_i h7 0 (Int32.toNatClampNeg (c5 + (1 : Int32)))), .ref 302]) rfl rfl trivial ?_
  refine xw_G (pc' := 1280) (st' := [.int c5, .ref 0, .int (xm_i h7 0 (Int32.toNatClampNeg (c5 + (3 : Int32)))), .int (xm_i h7 0 (Int32.toNatClampNeg (c5 + (2 : Int32)))), .int (xm_i h7 0 (Int32.toNatClampNeg (c5 + (1 : Int32)))), .ref 302]) rfl rfl trivial ?_
  refine xw_G (pc' := 1281) (st' := [.int (4 : Int32), .int c5, .ref 0, .int (xm_i h7 0 (Int32.toNatClampNeg (c5 + (3 : Int32)))), .int (xm_i h7 0 (Int32.toNatClampNeg (c5 + (2 : Int32)))), .int (xm_i h7 0 (Int32.toNatClampNeg (c5 + (1 : Int32)))), .ref 302]) rfl rfl trivial ?_
  refine xw_G (pc' := 1282) (st' := [.int (c5 + (4 : Int32)), .ref 0, .int (xm_i h7 0 (Int32.toNatClampNeg (c5 + (3 : Int32)))), .int (xm_i h7 0 (Int32.toNatClampNeg (c5 + (2 : Int32)))), .int (xm_i h7 0 (Int32.toNatClampNeg (c5 + (1 : Int32)))), .ref 302]) rfl rfl trivial ?_
  refine xg_e hf (fun hg13 hf => ?_)
  refine xa_ld (t := 100) (τ := 0) (v := .int (xm_i h7 0 (Int32.toNatClampNeg (c5 + (4 : Int32))))) rfl rfl hg9 rfl hg13 rfl ?_
  refine xb_e hf (fun v14 h15 e16 hf => ?_)
  refine xw_V (v := some (.int v14)) rfl rfl (xkf (xs_k hS rfl rfl : xm_k h7 302 = (11, 0))) (Nat.le_of_ble_eq_true rfl) (Nat.le_of_ble_eq_true rfl) (xm_Rn_le (Nat.le_of_ble_eq_true rfl) (t_X11_leastBid  hS e16).1) ?_
  have hS := (t_X11_leastBid  hS e16).2
  show xm_W _ _ _ 1286 _ [.int v14] _
  refine xw_G (pc' := 1288) (ls' := [some (.ref 0), some (.ref 160), some (.ref 302), some (.ref 316), some (.ref 317), some (.int c5), some (.int v6), some (.int v14), none]) (st' := []) rfl rfl (Nat.le_of_ble_eq_true rfl) ?_
  refine xw_G (pc' := 1289) (st' := [.ref 302]) rfl rfl trivial ?_
  refine xb_e hf (fun v17 h18 e19 hf => ?_)
  refine xw_V (v := some (.int v17)) rfl rfl (xkf (xs_k hS rfl rfl : xm_k h15 302 = (11, 0))) (Nat.le_of_ble_eq_true rfl) (Nat.le_of_ble_eq_true rfl) (xm_Rn_le (Nat.le_of_ble_eq_true rfl) (t_X11_thrown  hS e19).1) ?_
  have hS := (t_X11_thrown  hS e19).2
  show xm_W _ _ _ 1292 _ [.int v17] _
  refine xw_G (pc' := 1294) (st' := [.int v6, .int v17]) rfl rfl trivial ?_
  refine xj_ic_eq rfl hf (fun hc20 hf => ?_) (fun hc20 hf => ?_)
  · refine xw_G (pc' := 1301) (st' := [.int v6]) rfl rfl trivial ?_
    refine xj_if_ne rfl hf (fun hc21 hf => ?_) (fun hc21 hf => ?_)
    · refine xw_G (pc' := 1305) (st' := [.ref 316]) rfl rfl trivial ?_
      refine xw_G (pc' := 1306) (st' := [.int (0 : Int32), .ref 316]) rfl rfl trivial ?_
      refine xa_ld (t := 104) (τ := 4) (v := .long (xm_l h18 316 0)) rfl rfl (xkf (xs_k hS rfl rfl : xm_k h18 316 = (104, 1))) (xkn (xs_k hS rfl rfl : xm_k h18 316 = (104, 1))) (by decide : xin (0 : Int32) 1) rfl ?_
      refine xw_G (pc' := 1309) (st' := [.int v14, .long (xm_l h18 316 0)]) rfl rfl trivial ?_
      refine xw_G (pc' := 1310) (st' := [.long (Int32.toInt64 v14), .long (xm_l h18 316 0)]) rfl rfl trivial ?_
      refine xw_G (pc' := 1311) (st' := [.int (lg_cmp (xm_l h18 316 0) (Int32.toInt64 v14))]) rfl rfl trivial ?_
      refine xj_if_eq rfl hf (fun hc22 hf => ?_) (fun hc22 hf => ?_)
      · refine xw_G (pc' := 2876) (st' := []) rfl rfl trivial ?_
        refine xw_G (pc' := 2879) (ls' := [some (.ref 0), some (.ref 160), some (.ref 302), some (.ref 316), some (.ref 317), some (.int (c5 + (6 : Int32))), some (.int v6), some (.int v14), none]) (st' := []) rfl rfl (Nat.le_of_ble_eq_true rfl) ?_
        refine xw_G (pc' := 28) (st' := []) rfl rfl trivial ?_
        refine xw_M rfl rfl ?_
        exact ih _ _ ⟨_, _, hS⟩ hf
      · refine xw_G (pc' := 1315) (st' := [.int (0 : Int32)]) rfl rfl trivial ?_
        exact xr_i (inj := xji) (φ := fun h => ∃ ρ δ, xS ρ δ h) rfl rfl rfl rfl hf hQ ⟨_, _, hS⟩
    · refine xw_G (pc' := 2876) (st' := []) rfl rfl trivial ?_
      refine xw_G (pc' := 2879) (ls' := [some (.ref 0), some (.ref 160), some (.ref 302), some (.ref 316), some (.ref 317), some (.int (c5 + (6 : Int32))), some (.int v6), some (.int v14), none]) (st' := []) rfl rfl (Nat.le_of_ble_eq_true rfl) ?_
      refine xw_G (pc' := 28) (st' := []) rfl rfl trivial ?_
      refine xw_M rfl rfl ?_
      exact ih _ _ ⟨_, _, hS⟩ hf
  · refine xw_G (pc' := 1298) (st' := [.int (0 : Int32)]) rfl rfl trivial ?_
    exact xr_i (inj := xji) (φ := fun h => ∃ ρ δ, xS ρ δ h) rfl rfl rfl rfl hf hQ ⟨_, _, hS⟩

theorem tc_L_law_21 {N ρ δ : Nat} {Q : xm_O → xm_H → Prop} {w : Int32 × xm_H} (hQ : (∃ ρ δ, xS ρ δ w.2) → Q (xji w.1) w.2) {rec : Int32 → xm_H → Option (Int32 × xm_H)} (ih : ∀ (c5 : Int32) (h : xm_H), (∃ ρ δ, xS ρ δ h) → rec c5 h = some w → xm_W (xm_Rn xX 60) xM_L_law Q 28 [some (.ref 0), some (.ref 160), some (.ref 302), some (.ref 316), some (.ref 317), some (.int c5), none, none, none] [] h) : ∀ (c5 : Int32) (h : xm_H), xS ρ δ h → f_L_law_c21 N ρ δ rec c5 h = some w → xm_W (xm_Rn xX 60) xM_L_law Q 1319 [some (.ref 0), some (.ref 160), some (.ref 302), some (.ref 316), some (.ref 317), some (.int c5), none, none, none] [] h := by
  intro c5 h hS hf
  unfold f_L_law_c21 at hf
  refine xw_G (pc' := 1320) (st' := [.ref 160]) rfl rfl trivial ?_
  refine xw_G (pc' := 1321) (st' := [.ref 0, .ref 160]) rfl rfl trivial ?_
  refine xw_G (pc' := 1323) (st' := [.int c5, .ref 0, .ref 160]) rfl rfl trivial ?_
  refine xw_G (pc' := 1324) (st' := [.int (1 : Int32), .int c5, .ref 0, .ref 160]) rfl rfl trivial ?_
  refine xw_G (pc' := 1325) (st' := [.int (c5 + (1 : Int32)), .ref 0, .ref 160]) rfl rfl trivial ?_
  refine xg_e hf (fun hg1 hf => ?_)
  refine xg_e hf (fun hg2 hf => ?_)
  refine xa_ld (t := 100) (τ := 0) (v := .int (xm_i h 0 (Int32.toNatClampNeg (c5 + (1 : Int32))))) rfl rfl hg1 rfl hg2 rfl ?_
  refine xw_G (pc' := 1327) (st' := [.ref 0, .int (xm_i h 0 (Int32.toNatClampNeg (c5 + (1 : Int32)))), .ref 160]) rfl rfl trivial ?_
  refine xw_G (pc' := 1329) (st' := [.int c5, .ref 0, .int (xm_i h 0 (Int32.toNatClampNeg (c5 + (1 : Int32)))), .ref 160]) rfl rfl trivial ?_
  refine xw_G (pc' := 1330) (st' := [.int (2 : Int32), .int c5, .ref 0, .int (xm_i h 0 (Int32.toNatClampNeg (c5 + (1 : Int32)))), .ref 160]) rfl rfl trivial ?_
  refine xw_G (pc' := 1331) (st' := [.int (c5 + (2 : Int32)), .ref 0, .int (xm_i h 0 (Int32.toNatClampNeg (c5 + (1 : Int32)))), .ref 160]) rfl rfl trivial ?_
  refine xg_e hf (fun hg3 hf => ?_)
  refine xa_ld (t := 100) (τ := 0) (v := .int (xm_i h 0 (Int32.toNatClampNeg (c5 + (2 : Int32))))) rfl rfl hg1 rfl hg3 rfl ?_
  refine xw_G (pc' := 1333) (st' := [.ref 0, .int (xm_i h 0 (Int32.toNatClampNeg (c5 + (2 : Int32)))), .int (xm_i h 0 (Int32.toNatClampNeg (c5 + (1 : Int32)))), .ref 160]) rfl rfl trivial ?_
  refine xw_G (pc' := 1335) (st' := [.int c5, .ref 0, .int (xm_i h 0 (Int32.toNatClampNeg (c5 + (2 : Int32)))), .int (xm_i h 0 (Int32.toNatClampNeg (c5 + (1 : Int32)))), .ref 160]) rfl rfl trivial ?_
  refine xw_G (pc' := 1336) (st' := [.int (3 : Int32), .int c5, .ref 0, .int (xm_i h 0 (Int32.toNatClampNeg (c5 + (2 : Int32)))), .int (xm_i h 0 (Int32.toNatClampNeg (c5 + (1 : Int32)))), .ref 160]) rfl rfl trivial ?_
  refine xw_G (pc' := 1337) (st' := [.int (c5 + (3 : Int32)), .ref 0, .int (xm_i h 0 (Int32.toNatClampNeg (c5 + (2 : Int32)))), .int (xm_i h 0 (Int32.toNatClampNeg (c5 + (1 : Int32)))), .ref 160]) rfl rfl trivial ?_
  refine xg_e hf (fun hg4 hf => ?_)
  refine xa_ld (t := 100) (τ := 0) (v := .int (xm_i h 0 (Int32.toNatClampNeg (c5 + (3 : Int32))))) rfl rfl hg1 rfl hg4 rfl ?_
  refine xw_G (pc' := 1339) (st' := [.ref 316, .int (xm_i h 0 (Int32.toNatClampNeg (c5 + (3 : Int32)))), .int (xm_i h 0 (Int32.toNatClampNeg (c5 + (2 : Int32)))), .int (xm_i h 0 (Int32.toNatClampNeg (c5 + (1 : Int32)))), .ref 160]) rfl rfl trivial ?_
  refine xb_e hf (fun v5 h6 e7 hf => ?_)
  refine xw_S10 (v := some (.int v5)) rfl (Nat.le_of_ble_eq_true rfl) (Nat.le_of_ble_eq_true rfl) (xm_Rn_le (Nat.le_of_ble_eq_true rfl) (t_L_bestFloor  hS e7).1) ?_
  have hS := (t_L_bestFloor  hS e7).2
  show xm_W _ _ _ 1342 _ [.int v5] _
  refine xw_G (pc' := 1344) (ls' := [some (.ref 0), some (.ref 160), some (.ref 302), some (.ref 316), some (.ref 317), some (.int c5), some (.int v5), none, none]) (st' := []) rfl rfl (Nat.le_of_ble_eq_true rfl) ?_
  refine xw_G (pc' := 1345) (st' := [.ref 302]) rfl rfl trivial ?_
  refine xw_G (pc' := 1346) (st' := [.ref 0, .ref 302]) rfl rfl trivial ?_
  refine xw_G (pc' := 1348) (st' := [.int c5, .ref 0, .ref 302]) rfl rfl trivial ?_
  refine xw_G (pc' := 1349) (st' := [.int (1 : Int32), .int c5, .ref 0, .ref 302]) rfl rfl trivial ?_
  refine xw_G (pc' := 1350) (st' := [.int (c5 + (1 : Int32)), .ref 0, .ref 302]) rfl rfl trivial ?_
  refine xg_e hf (fun hg8 hf => ?_)
  refine xg_e hf (fun hg9 hf => ?_)
  refine xa_ld (t := 100) (τ := 0) (v := .int (xm_i h6 0 (Int32.toNatClampNeg (c5 + (1 : Int32))))) rfl rfl hg8 rfl hg9 rfl ?_
  refine xw_G (pc' := 1352) (st' := [.ref 0, .int (xm_i h6 0 (Int32.toNatClampNeg (c5 + (1 : Int32)))), .ref 302]) rfl rfl trivial ?_
  refine xw_G (pc' := 1354) (st' := [.int c5, .ref 0, .int (xm_i h6 0 (Int32.toNatClampNeg (c5 + (1 : Int32)))), .ref 302]) rfl rfl trivial ?_
  refine xw_G (pc' := 1355) (st' := [.int (2 : Int32), .int c5, .ref 0, .int (xm_i h6 0 (Int32.toNatClampNeg (c5 + (1 : Int32)))), .ref 302]) rfl rfl trivial ?_
  refine xw_G (pc' := 1356) (st' := [.int (c5 + (2 : Int32)), .ref 0, .int (xm_i h6 0 (Int32.toNatClampNeg (c5 + (1 : Int32)))), .ref 302]) rfl rfl trivial ?_
  refine xg_e hf (fun hg10 hf => ?_)
  refine xa_ld (t := 100) (τ := 0) (v := .int (xm_i h6 0 (Int32.toNatClampNeg (c5 + (2 : Int32))))) rfl rfl hg8 rfl hg10 rfl ?_
  refine xw_G (pc' := 1358) (st' := [.ref 0, .int (xm_i h6 0 (Int32.toNatClampNeg (c5 + (2 : Int32)))), .int (xm_i h6 0 (Int32.toNatClampNeg (c5 + (1 : Int32)))), .ref 302]) rfl rfl trivial ?_
  refine xw_G (pc' := 1360) (st' := [.int c5, .ref 0, .int (xm_i h6 0 (Int32.toNatClampNeg (c5 + (2 : Int32)))), .int (xm_i h6 0 (Int32.toNatClampNeg (c5 + (1 : Int32)))), .ref 302]) rfl rfl trivial ?_
  refine xw_G (pc' := 1361) (st' := [.int (3 : Int32), .int c5, .ref 0, .int (xm_i h6 0 (Int32.toNatClampNeg (c5 + (2 : Int32)))), .int (xm_i h6 0 (Int32.toNatClampNeg (c5 + (1 : Int32)))), .ref 302]) rfl rfl trivial ?_
  refine xw_G (pc' := 1362) (st' := [.int (c5 + (3 : Int32)), .ref 0, .int (xm_i h6 0 (Int32.toNatClampNeg (c5 + (2 : Int32)))), .int (xm_i h6 0 (Int32.toNatClampNeg (c5 + (1 : Int32)))), .ref 302]) rfl rfl trivial ?_
  refine xg_e hf (fun hg11 hf => ?_)
  refine xa_ld (t := 100) (τ := 0) (v := .int (xm_i h6 0 (Int32.toNatClampNeg (c5 + (3 : Int32))))) rfl rfl hg8 rfl hg11 rfl ?_
  refine xb_e hf (fun v12 h13 e14 hf => ?_)
  refine xw_V (v := some (.int v12)) rfl rfl (xkf (xs_k hS rfl rfl : xm_k h6 302 = (11, 0))) (Nat.le_of_ble_eq_true rfl) (Nat.le_of_ble_eq_true rfl) (xm_Rn_le (Nat.le_of_ble_eq_true rfl) (t_X11_bestFloor  hS e14).1) ?_
  have hS := (t_X11_bestFloor  hS e14).2
  show xm_W _ _ _ 1366 _ [.int v12] _
  refine xw_G (pc' := 1368) (ls' := [some (.ref 0), some (.ref 160), some (.ref 302), some (.ref 316), some (.ref 317), some (.int c5), some (.int v5), some (.int v12), none]) (st' := []) rfl rfl (Nat.le_of_ble_eq_true rfl) ?_
  refine xw_G (pc' := 1369) (st' := [.ref 302]) rfl rfl trivial ?_
  refine xb_e hf (fun v15 h16 e17 hf => ?_)
  refine xw_V (v := some (.int v15)) rfl rfl (xkf (xs_k hS rfl rfl : xm_k h13 302 = (11, 0))) (Nat.le_of_ble_eq_true rfl) (Nat.le_of_ble_eq_true rfl) (xm_Rn_le (Nat.le_of_ble_eq_true rfl) (t_X11_thrown  hS e17).1) ?_
  have hS := (t_X11_thrown  hS e17).2
  show xm_W _ _ _ 1372 _ [.int v15] _
  refine xw_G (pc' := 1374) (st' := [.int v5, .int v15]) rfl rfl trivial ?_
  refine xj_ic_eq rfl hf (fun hc18 hf => ?_) (fun hc18 hf => ?_)
  · refine xw_G (pc' := 1381) (st' := [.int v5]) rfl rfl trivial ?_
    refine xj_if_ne rfl hf (fun hc19 hf => ?_) (fun hc19 hf => ?_)
    · refine xw_G (pc' := 1385) (st' := [.ref 316]) rfl rfl trivial ?_
      refine xw_G (pc' := 1386) (st' := [.int (0 : Int32), .ref 316]) rfl rfl trivial ?_
      refine xa_ld (t := 104) (τ := 4) (v := .long (xm_l h16 316 0)) rfl rfl (xkf (xs_k hS rfl rfl : xm_k h16 316 = (104, 1))) (xkn (xs_k hS rfl rfl : xm_k h16 316 = (104, 1))) (by decide : xin (0 : Int32) 1) rfl ?_
      refine xw_G (pc' := 1389) (st' := [.int v12, .long (xm_l h16 316 0)]) rfl rfl trivial ?_
      refine xw_G (pc' := 1390) (st' := [.long (Int32.toInt64 v12), .long (xm_l h16 316 0)]) rfl rfl trivial ?_
      refine xw_G (pc' := 1391) (st' := [.int (lg_cmp (xm_l h16 316 0) (Int32.toInt64 v12))]) rfl rfl trivial ?_
      refine xj_if_eq rfl hf (fun hc20 hf => ?_) (fun hc20 hf => ?_)
      · refine xw_G (pc' := 2876) (st' := []) rfl rfl trivial ?_
        refine xw_G (pc' := 2879) (ls' := [some (.ref 0), some (.ref 160), some (.ref 302), some (.ref 316), some (.ref 317), some (.int (c5 + (6 : Int32))), some (.int v5), some (.int v12), none]) (st' := []) rfl rfl (Nat.le_of_ble_eq_true rfl) ?_
        refine xw_G (pc' := 28) (st' := []) rfl rfl trivial ?_
        refine xw_M rfl rfl ?_
        exact ih _ _ ⟨_, _, hS⟩ hf
      · refine xw_G (pc' := 1395) (st' := [.int (0 : Int32)]) rfl rfl trivial ?_
        exact xr_i (inj := xji) (φ := fun h => ∃ ρ δ, xS ρ δ h) rfl rfl rfl rfl hf hQ ⟨_, _, hS⟩
    · refine xw_G (pc' := 2876) (st' := []) rfl rfl trivial ?_
      refine xw_G (pc' := 2879) (ls' := [some (.ref 0), some (.ref 160), some (.ref 302), some (.ref 316), some (.ref 317), some (.int (c5 + (6 : Int32))), some (.int v5), some (.int v12), none]) (st' := []) rfl rfl (Nat.le_of_ble_eq_true rfl) ?_
      refine xw_G (pc' := 28) (st' := []) rfl rfl trivial ?_
      refine xw_M rfl rfl ?_
      exact ih _ _ ⟨_, _, hS⟩ hf
  · refine xw_G (pc' := 1378) (st' := [.int (0 : Int32)]) rfl rfl trivial ?_
    exact xr_i (inj := xji) (φ := fun h => ∃ ρ δ, xS ρ δ h) rfl rfl rfl rfl hf hQ ⟨_, _, hS⟩

theorem tc_L_law_22 {N ρ δ : Nat} {Q : xm_O → xm_H → Prop} {w : Int32 × xm_H} (hQ : (∃ ρ δ, xS ρ δ w.2) → Q (xji w.1) w.2) {rec : Int32 → xm_H → Option (Int32 × xm_H)} (ih : ∀ (c5 : Int32) (h : xm_H), (∃ ρ δ, xS ρ δ h) → rec c5 h = some w → xm_W (xm_Rn xX 60) xM_L_law Q 28 [some (.ref 0), some (.ref 160), some (.ref 302), some (.ref 316), some (.ref 317), some (.int c5), none, none, none] [] h) : ∀ (c5 : Int32) (h : xm_H), xS ρ δ h → f_L_law_c22 N ρ δ rec c5 h = some w → xm_W (xm_Rn xX 60) xM_L_law Q 1399 [some (.ref 0), some (.ref 160), some (.ref 302), some (.ref 316), some (.ref 317), some (.int c5), none, none, none] [] h := by
  intro c5 h hS hf
  unfold f_L_law_c22 at hf
  refine xw_G (pc' := 1400) (st' := [.ref 160]) rfl rfl trivial ?_
  refine xw_G (pc' := 1401) (st' := [.ref 0, .ref 160]) rfl rfl trivial ?_
  refine xw_G (pc' := 1403) (st' := [.int c5, .ref 0, .ref 160]) rfl rfl trivial ?_
  refine xw_G (pc' := 1404) (st' := [.int (1 : Int32), .int c5, .ref 0, .ref 160]) rfl rfl trivial ?_
  refine xw_G (pc' := 1405) (st' := [.int (c5 + (1 : Int32)), .ref 0, .ref 160]) rfl rfl trivial ?_
  refine xg_e hf (fun hg1 hf => ?_)
  refine xg_e hf (fun hg2 hf => ?_)
  refine xa_ld (t := 100) (τ := 0) (v := .int (xm_i h 0 (Int32.toNatClampNeg (c5 + (1 : Int32))))) rfl rfl hg1 rfl hg2 rfl ?_
  refine xw_G (pc' := 1407) (st' := [.ref 0, .int (xm_i h 0 (Int32.toNatClampNeg (c5 + (1 : Int32)))), .ref 160]) rfl rfl trivial ?_
  refine xw_G (pc' := 1409) (st' := [.int c5, .ref 0, .int (xm_i h 0 (Int32.toNatClampNeg (c5 + (1 : Int32)))), .ref 160]) rfl rfl trivial ?_
  refine xw_G (pc' := 1410) (st' := [.int (2 : Int32), .int c5, .ref 0, .int (xm_i h 0 (Int32.toNatClampNeg (c5 + (1 : Int32)))), .ref 160]) rfl rfl trivial ?_
  refine xw_G (pc' := 1411) (st' := [.int (c5 + (2 : Int32)), .ref 0, .int (xm_i h 0 (Int32.toNatClampNeg (c5 + (1 : Int32)))), .ref 160]) rfl rfl trivial ?_
  refine xg_e hf (fun hg3 hf => ?_)
  refine xa_ld (t := 100) (τ := 0) (v := .int (xm_i h 0 (Int32.toNatClampNeg (c5 + (2 : Int32))))) rfl rfl hg1 rfl hg3 rfl ?_
  refine xw_G (pc' := 1413) (st' := [.ref 0, .int (xm_i h 0 (Int32.toNatClampNeg (c5 + (2 : Int32)))), .int (xm_i h 0 (Int32.toNatClampNeg (c5 + (1 : Int32)))), .ref 160]) rfl rfl trivial ?_
  refine xw_G (pc' := 1415) (st' := [.int c5, .ref 0, .int (xm_i h 0 (Int32.toNatClampNeg (c5 + (2 : Int32)))), .int (xm_i h 0 (Int32.toNatClampNeg (c5 + (1 : Int32)))), .ref 160]) rfl rfl trivial ?_
  refine xw_G (pc' := 1416) (st' := [.int (3 : Int32), .int c5, .ref 0, .int (xm_i h 0 (Int32.toNatClampNeg (c5 + (2 : Int32)))), .int (xm_i h 0 (Int32.toNatClampNeg (c5 + (1 : Int32)))), .ref 160]) rfl rfl trivial ?_
  refine xw_G (pc' := 1417) (st' := [.int (c5 + (3 : Int32)), .ref 0, .int (xm_i h 0 (Int32.toNatClampNeg (c5 + (2 : Int32)))), .int (xm_i h 0 (Int32.toNatClampNeg (c5 + (1 : Int32)))), .ref 160]) rfl rfl trivial ?_
  refine xg_e hf (fun hg4 hf => ?_)
  refine xa_ld (t := 100) (τ := 0) (v := .int (xm_i h 0 (Int32.toNatClampNeg (c5 + (3 : Int32))))) rfl rfl hg1 rfl hg4 rfl ?_
  refine xw_G (pc' := 1419) (st' := [.ref 316, .int (xm_i h 0 (Int32.toNatClampNeg (c5 + (3 : Int32)))), .int (xm_i h 0 (Int32.toNatClampNeg (c5 + (2 : Int32)))), .int (xm_i h 0 (Int32.toNatClampNeg (c5 + (1 : Int32)))), .ref 160]) rfl rfl trivial ?_
  refine xb_e hf (fun v5 h6 e7 hf => ?_)
  refine xw_S10 (v := some (.int v5)) rfl (Nat.le_of_ble_eq_true rfl) (Nat.le_of_ble_eq_true rfl) (xm_Rn_le (Nat.le_of_ble_eq_true rfl) (t_L_revenueAfter  hS e7).1) ?_
  have hS := (t_L_revenueAfter  hS e7).2
  show xm_W _ _ _ 1422 _ [.int v5] _
  refine xw_G (pc' := 1424) (ls' := [some (.ref 0), some (.ref 160), some (.ref 302), some (.ref 316), some (.ref 317), some (.int c5), some (.int v5), none, none]) (st' := []) rfl rfl (Nat.le_of_ble_eq_true rfl) ?_
  refine xw_G (pc' := 1425) (st' := [.ref 302]) rfl rfl trivial ?_
  refine xw_G (pc' := 1426) (st' := [.ref 0, .ref 302]) rfl rfl trivial ?_
  refine xw_G (pc' := 1428) (st' := [.int c5, .ref 0, .ref 302]) rfl rfl trivial ?_
  refine xw_G (pc' := 1429) (st' := [.int (1 : Int32), .int c5, .ref 0, .ref 302]) rfl rfl trivial ?_
  refine xw_G (pc' := 1430) (st' := [.int (c5 + (1 : Int32)), .ref 0, .ref 302]) rfl rfl trivial ?_
  refine xg_e hf (fun hg8 hf => ?_)
  refine xg_e hf (fun hg9 hf => ?_)
  refine xa_ld (t := 100) (τ := 0) (v := .int (xm_i h6 0 (Int32.toNatClampNeg (c5 + (1 : Int32))))) rfl rfl hg8 rfl hg9 rfl ?_
  refine xw_G (pc' := 1432) (st' := [.ref 0, .int (xm_i h6 0 (Int32.toNatClampNeg (c5 + (1 : Int32)))), .ref 302]) rfl rfl trivial ?_
  refine xw_G (pc' := 1434) (st' := [.int c5, .ref 0, .int (xm_i h6 0 (Int32.toNatClampNeg (c5 + (1 : Int32)))), .ref 302]) rfl rfl trivial ?_
  refine xw_G (pc' := 1435) (st' := [.int (2 : Int32), .int c5, .ref 0, .int (xm_i h6 0 (Int32.toNatClampNeg (c5 + (1 : Int32)))), .ref 302]) rfl rfl trivial ?_
  refine xw_G (pc' := 1436) (st' := [.int (c5 + (2 : Int32)), .ref 0, .int (xm_i h6 0 (Int32.toNatClampNeg (c5 + (1 : Int32)))), .ref 302]) rfl rfl trivial ?_
  refine xg_e hf (fun hg10 hf => ?_)
  refine xa_ld (t := 100) (τ := 0) (v := .int (xm_i h6 0 (Int32.toNatClampNeg (c5 + (2 : Int32))))) rfl rfl hg8 rfl hg10 rfl ?_
  refine xw_G (pc' := 1438) (st' := [.ref 0, .int (xm_i h6 0 (Int32.toNatClampNeg (c5 + (2 : Int32)))), .int (xm_i h6 0 (Int32.toNatClampNeg (c5 + (1 : Int32)))), .ref 302]) rfl rfl trivial ?_
  refine xw_G (pc' := 1440) (st' := [.int c5, .ref 0, .int (xm_i h6 0 (Int32.toNatClampNeg (c5 + (2 : Int32)))), .int (xm_i h6 0 (Int32.toNatClampNeg (c5 + (1 : Int32)))), .ref 302]) rfl rfl trivial ?_
  refine xw_G (pc' := 1441) (st' := [.int (3 : Int32), .int c5, .ref 0, .int (xm_i h6 0 (Int32.toNatClampNeg (c5 + (2 : Int32)))), .int (xm_i h6 0 (Int32.toNatClampNeg (c5 + (1 : Int32)))), .ref 302]) rfl rfl trivial ?_
  refine xw_G (pc' := 1442) (st' := [.int (c5 + (3 : Int32)), .ref 0, .int (xm_i h6 0 (Int32.toNatClampNeg (c5 + (2 : Int32)))), .int (xm_i h6 0 (Int32.toNatClampNeg (c5 + (1 : Int32)))), .ref 302]) rfl rfl trivial ?_
  refine xg_e hf (fun hg11 hf => ?_)
  refine xa_ld (t := 100) (τ := 0) (v := .int (xm_i h6 0 (Int32.toNatClampNeg (c5 + (3 : Int32))))) rfl rfl hg8 rfl hg11 rfl ?_
  refine xb_e hf (fun v12 h13 e14 hf => ?_)
  refine xw_V (v := some (.int v12)) rfl rfl (xkf (xs_k hS rfl rfl : xm_k h6 302 = (11, 0))) (Nat.le_of_ble_eq_true rfl) (Nat.le_of_ble_eq_true rfl) (xm_Rn_le (Nat.le_of_ble_eq_true rfl) (t_X11_revenueAfter  hS e14).1) ?_
  have hS := (t_X11_revenueAfter  hS e14).2
  show xm_W _ _ _ 1446 _ [.int v12] _
  refine xw_G (pc' := 1448) (ls' := [some (.ref 0), some (.ref 160), some (.ref 302), some (.ref 316), some (.ref 317), some (.int c5), some (.int v5), some (.int v12), none]) (st' := []) rfl rfl (Nat.le_of_ble_eq_true rfl) ?_
  refine xw_G (pc' := 1449) (st' := [.ref 302]) rfl rfl trivial ?_
  refine xb_e hf (fun v15 h16 e17 hf => ?_)
  refine xw_V (v := some (.int v15)) rfl rfl (xkf (xs_k hS rfl rfl : xm_k h13 302 = (11, 0))) (Nat.le_of_ble_eq_true rfl) (Nat.le_of_ble_eq_true rfl) (xm_Rn_le (Nat.le_of_ble_eq_true rfl) (t_X11_thrown  hS e17).1) ?_
  have hS := (t_X11_thrown  hS e17).2
  show xm_W _ _ _ 1452 _ [.int v15] _
  refine xw_G (pc' := 1454) (st' := [.int v5, .int v15]) rfl rfl trivial ?_
  refine xj_ic_eq rfl hf (fun hc18 hf => ?_) (fun hc18 hf => ?_)
  · refine xw_G (pc' := 1461) (st' := [.int v5]) rfl rfl trivial ?_
    refine xj_if_ne rfl hf (fun hc19 hf => ?_) (fun hc19 hf => ?_)
    · refine xw_G (pc' := 1465) (st' := [.ref 316]) rfl rfl trivial ?_
      refine xw_G (pc' := 1466) (st' := [.int (0 : Int32), .ref 316]) rfl rfl trivial ?_
      refine xa_ld (t := 104) (τ := 4) (v := .long (xm_l h16 316 0)) rfl rfl (xkf (xs_k hS rfl rfl : xm_k h16 316 = (104, 1))) (xkn (xs_k hS rfl rfl : xm_k h16 316 = (104, 1))) (by decide : xin (0 : Int32) 1) rfl ?_
      refine xw_G (pc' := 1469) (st' := [.int v12, .long (xm_l h16 316 0)]) rfl rfl trivial ?_
      refine xw_G (pc' := 1470) (st' := [.long (Int32.toInt64 v12), .long (xm_l h16 316 0)]) rfl rfl trivial ?_
      refine xw_G (pc' := 1471) (st' := [.int (lg_cmp (xm_l h16 316 0) (Int32.toInt64 v12))]) rfl rfl trivial ?_
      refine xj_if_eq rfl hf (fun hc20 hf => ?_) (fun hc20 hf => ?_)
      · refine xw_G (pc' := 2876) (st' := []) rfl rfl trivial ?_
        refine xw_G (pc' := 2879) (ls' := [some (.ref 0), some (.ref 160), some (.ref 302), some (.ref 316), some (.ref 317), some (.int (c5 + (6 : Int32))), some (.int v5), some (.int v12), none]) (st' := []) rfl rfl (Nat.le_of_ble_eq_true rfl) ?_
        refine xw_G (pc' := 28) (st' := []) rfl rfl trivial ?_
        refine xw_M rfl rfl ?_
        exact ih _ _ ⟨_, _, hS⟩ hf
      · refine xw_G (pc' := 1475) (st' := [.int (0 : Int32)]) rfl rfl trivial ?_
        exact xr_i (inj := xji) (φ := fun h => ∃ ρ δ, xS ρ δ h) rfl rfl rfl rfl hf hQ ⟨_, _, hS⟩
    · refine xw_G (pc' := 2876) (st' := []) rfl rfl trivial ?_
      refine xw_G (pc' := 2879) (ls' := [some (.ref 0), some (.ref 160), some (.ref 302), some (.ref 316), some (.ref 317), some (.int (c5 + (6 : Int32))), some (.int v5), some (.int v12), none]) (st' := []) rfl rfl (Nat.le_of_ble_eq_true rfl) ?_
      refine xw_G (pc' := 28) (st' := []) rfl rfl trivial ?_
      refine xw_M rfl rfl ?_
      exact ih _ _ ⟨_, _, hS⟩ hf
  · refine xw_G (pc' := 1458) (st' := [.int (0 : Int32)]) rfl rfl trivial ?_
    exact xr_i (inj := xji) (φ := fun h => ∃ ρ δ, xS ρ δ h) rfl rfl rfl rfl hf hQ ⟨_, _, hS⟩

theorem tc_L_law_23 {N ρ δ : Nat} {Q : xm_O → xm_H → Prop} {w : Int32 × xm_H} (hQ : (∃ ρ δ, xS ρ δ w.2) → Q (xji w.1) w.2) {rec : Int32 → xm_H → Option (Int32 × xm_H)} (ih : ∀ (c5 : Int32) (h : xm_H), (∃ ρ δ, xS ρ δ h) → rec c5 h = some w → xm_W (xm_Rn xX 60) xM_L_law Q 28 [some (.ref 0), some (.ref 160), some (.ref 302), some (.ref 316), some (.ref 317), some (.int c5), none, none, none] [] h) : ∀ (c5 : Int32) (h : xm_H), xS ρ δ h → f_L_law_c23 N ρ δ rec c5 h = some w → xm_W (xm_Rn xX 60) xM_L_law Q 1479 [some (.ref 0), some (.ref 160), some (.ref 302), some (.ref 316), some (.ref 317), some (.int c5), none, none, none] [] h := by
  intro c5 h hS hf
  unfold f_L_law_c23 at hf
  refine xw_G (pc' := 1480) (st' := [.ref 160]) rfl rfl trivial ?_
  refine xw_G (pc' := 1481) (st' := [.ref 0, .ref 160]) rfl rfl trivial ?_
  refine xw_G (pc' := 1483) (st' := [.int c5, .ref 0, .ref 160]) rfl rfl trivial ?_
  refine xw_G (pc' := 1484) (st' := [.int (1 : Int32), .int c5, .ref 0, .ref 160]) rfl rfl trivial ?_
  refine xw_G (pc' := 1485) (st' := [.int (c5 + (1 : Int32)), .ref 0, .ref 160]) rfl rfl trivial ?_
  refine xg_e hf (fun hg1 hf => ?_)
  refine xg_e hf (fun hg2 hf => ?_)
  refine xa_ld (t := 100) (τ := 0) (v := .int (xm_i h 0 (Int32.toNatClampNeg (c5 + (1 : Int32))))) rfl rfl hg1 rfl hg2 rfl ?_
  refine xw_G (pc' := 1487) (st' := [.ref 0, .int (xm_i h 0 (Int32.toNatClampNeg (c5 + (1 : Int32)))), .ref 160]) rfl rfl trivial ?_
  refine xw_G (pc' := 1489) (st' := [.int c5, .ref 0, .int (xm_i h 0 (Int32.toNatClampNeg (c5 + (1 : Int32)))), .ref 160]) rfl rfl trivial ?_
  refine xw_G (pc' := 1490) (st' := [.int (2 : Int32), .int c5, .ref 0, .int (xm_i h 0 (Int32.toNatClampNeg (c5 + (1 : Int32)))), .ref 160]) rfl rfl trivial ?_
  refine xw_G (pc' := 1491) (st' := [.int (c5 + (2 : Int32)), .ref 0, .int (xm_i h 0 (Int32.toNatClampNeg (c5 + (1 : Int32)))), .ref 160]) rfl rfl trivial ?_
  refine xg_e hf (fun hg3 hf => ?_)
  refine xa_ld (t := 100) (τ := 0) (v := .int (xm_i h 0 (Int32.toNatClampNeg (c5 + (2 : Int32))))) rfl rfl hg1 rfl hg3 rfl ?_
  refine xw_G (pc' := 1493) (st' := [.ref 0, .int (xm_i h 0 (Int32.toNatClampNeg (c5 + (2 : Int32)))), .int (xm_i h 0 (Int32.toNatClampNeg (c5 + (1 : Int32)))), .ref 160]) rfl rfl trivial ?_
  refine xw_G (pc' := 1495) (st' := [.int c5, .ref 0, .int (xm_i h 0 (Int32.toNatClampNeg (c5 + (2 : Int32)))), .int (xm_i h 0 (Int32.toNatClampNeg (c5 + (1 : Int32)))), .ref 160]) rfl rfl trivial ?_
  refine xw_G (pc' := 1496) (st' := [.int (3 : Int32), .int c5, .ref 0, .int (xm_i h 0 (Int32.toNatClampNeg (c5 + (2 : Int32)))), .int (xm_i h 0 (Int32.toNatClampNeg (c5 + (1 : Int32)))), .ref 160]) rfl rfl trivial ?_
  refine xw_G (pc' := 1497) (st' := [.int (c5 + (3 : Int32)), .ref 0, .int (xm_i h 0 (Int32.toNatClampNeg (c5 + (2 : Int32)))), .int (xm_i h 0 (Int32.toNatClampNeg (c5 + (1 : Int32)))), .ref 160]) rfl rfl trivial ?_
  refine xg_e hf (fun hg4 hf => ?_)
  refine xa_ld (t := 100) (τ := 0) (v := .int (xm_i h 0 (Int32.toNatClampNeg (c5 + (3 : Int32))))) rfl rfl hg1 rfl hg4 rfl ?_
  refine xw_G (pc' := 1499) (st' := [.ref 0, .int (xm_i h 0 (Int32.toNatClampNeg (c5 + (3 : Int32)))), .int (xm_i h 0 (Int32.toNatClampNeg (c5 + (2 : Int32)))), .int (xm_i h 0 (Int32.toNatClampNeg (c5 + (1 : Int32)))), .ref 160]) rfl rfl trivial ?_
  refine xw_G (pc' := 1501) (st' := [.int c5, .ref 0, .int (xm_i h 0 (Int32.toNatClampNeg (c5 + (3 : Int32)))), .int (xm_i h 0 (Int32.toNatClampNeg (c5 + (2 : Int32)))), .int (xm_i h 0 (Int32.toNatClampNeg (c5 + (1 : Int32)))), .ref 160]) rfl rfl trivial ?_
  refine xw_G (pc' := 1502) (st' := [.int (4 : Int32), .int c5, .ref 0, .int (xm_i h 0 (Int32.toNatClampNeg (c5 + (3 : Int32)))), .int (xm_i h 0 (Int32.toNatClampNeg (c5 + (2 : Int32)))), .int (xm_i h 0 (Int32.toNatClampNeg (c5 + (1 : Int32)))), .ref 160]) rfl rfl trivial ?_
  refine xw_G (pc' := 1503) (st' := [.int (c5 + (4 : Int32)), .ref 0, .int (xm_i h 0 (Int32.toNatClampNeg (c5 + (3 : Int32)))), .int (xm_i h 0 (Int32.toNatClampNeg (c5 + (2 : Int32)))), .int (xm_i h 0 (Int32.toNatClampNeg (c5 + (1 : Int32)))), .ref 160]) rfl rfl trivial ?_
  refine xg_e hf (fun hg5 hf => ?_)
  refine xa_ld (t := 100) (τ := 0) (v := .int (xm_i h 0 (Int32.toNatClampNeg (c5 + (4 : Int32))))) rfl rfl hg1 rfl hg5 rfl ?_
  refine xw_G (pc' := 1505) (st' := [.ref 316, .int (xm_i h 0 (Int32.toNatClampNeg (c5 + (4 : Int32)))), .int (xm_i h 0 (Int32.toNatClampNeg (c5 + (3 : Int32)))), .int (xm_i h 0 (Int32.toNatClampNeg (c5 + (2 : Int32)))), .int (xm_i h 0 (Int32.toNatClampNeg (c5 + (1 : Int32)))), .ref 160]) rfl rfl trivial ?_
  refine xb_e hf (fun v6 h7 e8 hf => ?_)
  refine xw_S10 (v := some (.int v6)) rfl (Nat.le_of_ble_eq_true rfl) (Nat.le_of_ble_eq_true rfl) (xm_Rn_le (Nat.le_of_ble_eq_true rfl) (t_L_multiplierAfter  hS e8).1) ?_
  have hS := (t_L_multiplierAfter  hS e8).2
  show xm_W _ _ _ 1508 _ [.int v6] _
  refine xw_G (pc' := 1510) (ls' := [some (.ref 0), some (.ref 160), some (.ref 302), some (.ref 316), some (.ref 317), some (.int c5), some (.int v6), none, none]) (st' := []) rfl rfl (Nat.le_of_ble_eq_true rfl) ?_
  refine xw_G (pc' := 1511) (st' := [.ref 302]) rfl rfl trivial ?_
  refine xw_G (pc' := 1512) (st' := [.ref 0, .ref 302]) rfl rfl trivial ?_
  refine xw_G (pc' := 1514) (st' := [.int c5, .ref 0, .ref 302]) rfl rfl trivial ?_
  refine xw_G (pc' := 1515) (st' := [.int (1 : Int32), .int c5, .ref 0, .ref 302]) rfl rfl trivial ?_
  refine xw_G (pc' := 1516) (st' := [.int (c5 + (1 : Int32)), .ref 0, .ref 302]) rfl rfl trivial ?_
  refine xg_e hf (fun hg9 hf => ?_)
  refine xg_e hf (fun hg10 hf => ?_)
  refine xa_ld (t := 100) (τ := 0) (v := .int (xm_i h7 0 (Int32.toNatClampNeg (c5 + (1 : Int32))))) rfl rfl hg9 rfl hg10 rfl ?_
  refine xw_G (pc' := 1518) (st' := [.ref 0, .int (xm_i h7 0 (Int32.toNatClampNeg (c5 + (1 : Int32)))), .ref 302]) rfl rfl trivial ?_
  refine xw_G (pc' := 1520) (st' := [.int c5, .ref 0, .int (xm_i h7 0 (Int32.toNatClampNeg (c5 + (1 : Int32)))), .ref 302]) rfl rfl trivial ?_
  refine xw_G (pc' := 1521) (st' := [.int (2 : Int32), .int c5, .ref 0, .int (xm_i h7 0 (Int32.toNatClampNeg (c5 + (1 : Int32)))), .ref 302]) rfl rfl trivial ?_
  refine xw_G (pc' := 1522) (st' := [.int (c5 + (2 : Int32)), .ref 0, .int (xm_i h7 0 (Int32.toNatClampNeg (c5 + (1 : Int32)))), .ref 302]) rfl rfl trivial ?_
  refine xg_e hf (fun hg11 hf => ?_)
  refine xa_ld (t := 100) (τ := 0) (v := .int (xm_i h7 0 (Int32.toNatClampNeg (c5 + (2 : Int32))))) rfl rfl hg9 rfl hg11 rfl ?_
  refine xw_G (pc' := 1524) (st' := [.ref 0, .int (xm_i h7 0 (Int32.toNatClampNeg (c5 + (2 : Int32)))), .int (xm_i h7 0 (Int32.toNatClampNeg (c5 + (1 : Int32)))), .ref 302]) rfl rfl trivial ?_
  refine xw_G (pc' := 1526) (st' := [.int c5, .ref 0, .int (xm_i h7 0 (Int32.toNatClampNeg (c5 + (2 : Int32)))), .int (xm_i h7 0 (Int32.toNatClampNeg (c5 + (1 : Int32)))), .ref 302]) rfl rfl trivial ?_
  refine xw_G (pc' := 1527) (st' := [.int (3 : Int32), .int c5, .ref 0, .int (xm_i h7 0 (Int32.toNatClampNeg (c5 + (2 : Int32)))), .int (xm_i h7 0 (Int32.toNatClampNeg (c5 + (1 : Int32)))), .ref 302]) rfl rfl trivial ?_
  refine xw_G (pc' := 1528) (st' := [.int (c5 + (3 : Int32)), .ref 0, .int (xm_i h7 0 (Int32.toNatClampNeg (c5 + (2 : Int32)))), .int (xm_i h7 0 (Int32.toNatClampNeg (c5 + (1 : Int32)))), .ref 302]) rfl rfl trivial ?_
  refine xg_e hf (fun hg12 hf => ?_)
  refine xa_ld (t := 100) (τ := 0) (v := .int (xm_i h7 0 (Int32.toNatClampNeg (c5 + (3 : Int32))))) rfl rfl hg9 rfl hg12 rfl ?_
  refine xw_G (pc' := 1530) (st' := [.ref 0, .int (xm_i h7 0 (Int32.toNatClampNeg (c5 + (3 : Int32)))), .int (xm_i h7 0 (Int32.toNatClampNeg (c5 + (2 : Int32)))), .int (xm_i h7 0 (Int32.toNatClampNeg (c5 + (1 : Int32)))), .ref 302]) rfl rfl trivial ?_
  refine xw_G (pc' := 1532) (st' := [.int c5, .ref 0, .int (xm_i h7 0 (Int32.toNatClampNeg (c5 + (3 : Int32)))), .int (xm_i h7 0 (Int32.toNatClampNeg (c5 + (2 : Int32)))), .int (xm_i h7 0 (Int32.toNatClampNeg (c5 + (1 : Int32)))), .ref 302]) rfl rfl trivial ?_
  refine xw_G (pc' := 1533) (st' := [.int (4 : Int32), .int c5, .ref 0, .int (xm_i h7 0 (Int32.toNatClampNeg (c5 + (3 : Int32)))), .int (xm_i h7 0 (Int32.toNatClampNeg (c5 + (2 : Int32)))), .int (xm_i h7 0 (Int32.toNatClampNeg (c5 + (1 : Int32)))), .ref 302]) rfl rfl trivial ?_
  refine xw_G (pc' := 1534) (st' := [.int (c5 + (4 : Int32)), .ref 0, .int (xm_i h7 0 (Int32.toNatClampNeg (c5 + (3 : Int32)))), .int (xm_i h7 0 (Int32.toNatClampNeg (c5 + (2 : Int32)))), .int (xm_i h7 0 (Int32.toNatClampNeg (c5 + (1 : Int32)))), .ref 302]) rfl rfl trivial ?_
  refine xg_e hf (fun hg13 hf => ?_)
  refine xa_ld (t := 100) (τ := 0) (v := .int (xm_i h7 0 (Int32.toNatClampNeg (c5 + (4 : Int32))))) rfl rfl hg9 rfl hg13 rfl ?_
  refine xb_e hf (fun v14 h15 e16 hf => ?_)
  refine xw_V (v := some (.int v14)) rfl rfl (xkf (xs_k hS rfl rfl : xm_k h7 302 = (11, 0))) (Nat.le_of_ble_eq_true rfl) (Nat.le_of_ble_eq_true rfl) (xm_Rn_le (Nat.le_of_ble_eq_true rfl) (t_X11_multiplierAfter  hS e16).1) ?_
  have hS := (t_X11_multiplierAfter  hS e16).2
  show xm_W _ _ _ 1538 _ [.int v14] _
  refine xw_G (pc' := 1540) (ls' := [some (.ref 0), some (.ref 160), some (.ref 302), some (.ref 316), some (.ref 317), some (.int c5), some (.int v6), some (.int v14), none]) (st' := []) rfl rfl (Nat.le_of_ble_eq_true rfl) ?_
  refine xw_G (pc' := 1541) (st' := [.ref 302]) rfl rfl trivial ?_
  refine xb_e hf (fun v17 h18 e19 hf => ?_)
  refine xw_V (v := some (.int v17)) rfl rfl (xkf (xs_k hS rfl rfl : xm_k h15 302 = (11, 0))) (Nat.le_of_ble_eq_true rfl) (Nat.le_of_ble_eq_true rfl) (xm_Rn_le (Nat.le_of_ble_eq_true rfl) (t_X11_thrown  hS e19).1) ?_
  have hS := (t_X11_thrown  hS e19).2
  show xm_W _ _ _ 1544 _ [.int v17] _
  refine xw_G (pc' := 1546) (st' := [.int v6, .int v17]) rfl rfl trivial ?_
  refine xj_ic_eq rfl hf (fun hc20 hf => ?_) (fun hc20 hf => ?_)
  · refine xw_G (pc' := 1553) (st' := [.int v6]) rfl rfl trivial ?_
    refine xj_if_ne rfl hf (fun hc21 hf => ?_) (fun hc21 hf => ?_)
    · refine xw_G (pc' := 1557) (st' := [.ref 316]) rfl rfl trivial ?_
      refine xw_G (pc' := 1558) (st' := [.int (0 : Int32), .ref 316]) rfl rfl trivial ?_
      refine xa_ld (t := 104) (τ := 4) (v := .long (xm_l h18 316 0)) rfl rfl (xkf (xs_k hS rfl rfl : xm_k h18 316 = (104, 1))) (xkn (xs_k hS rfl rfl : xm_k h18 316 = (104, 1))) (by decide : xin (0 : Int32) 1) rfl ?_
      refine xw_G (pc' := 1561) (st' := [.int v14, .long (xm_l h18 316 0)]) rfl rfl trivial ?_
      refine xw_G (pc' := 1562) (st' := [.long (Int32.toInt64 v14), .long (xm_l h18 316 0)]) rfl rfl trivial ?_
      refine xw_G (pc' := 1563) (st' := [.int (lg_cmp (xm_l h18 316 0) (Int32.toInt64 v14))]) rfl rfl trivial ?_
      refine xj_if_eq rfl hf (fun hc22 hf => ?_) (fun hc22 hf => ?_)
      · refine xw_G (pc' := 2876) (st' := []) rfl rfl trivial ?_
        refine xw_G (pc' := 2879) (ls' := [some (.ref 0), some (.ref 160), some (.ref 302), some (.ref 316), some (.ref 317), some (.int (c5 + (6 : Int32))), some (.int v6), some (.int v14), none]) (st' := []) rfl rfl (Nat.le_of_ble_eq_true rfl) ?_
        refine xw_G (pc' := 28) (st' := []) rfl rfl trivial ?_
        refine xw_M rfl rfl ?_
        exact ih _ _ ⟨_, _, hS⟩ hf
      · refine xw_G (pc' := 1567) (st' := [.int (0 : Int32)]) rfl rfl trivial ?_
        exact xr_i (inj := xji) (φ := fun h => ∃ ρ δ, xS ρ δ h) rfl rfl rfl rfl hf hQ ⟨_, _, hS⟩
    · refine xw_G (pc' := 2876) (st' := []) rfl rfl trivial ?_
      refine xw_G (pc' := 2879) (ls' := [some (.ref 0), some (.ref 160), some (.ref 302), some (.ref 316), some (.ref 317), some (.int (c5 + (6 : Int32))), some (.int v6), some (.int v14), none]) (st' := []) rfl rfl (Nat.le_of_ble_eq_true rfl) ?_
      refine xw_G (pc' := 28) (st' := []) rfl rfl trivial ?_
      refine xw_M rfl rfl ?_
      exact ih _ _ ⟨_, _, hS⟩ hf
  · refine xw_G (pc' := 1550) (st' := [.int (0 : Int32)]) rfl rfl trivial ?_
    exact xr_i (inj := xji) (φ := fun h => ∃ ρ δ, xS ρ δ h) rfl rfl rfl rfl hf hQ ⟨_, _, hS⟩

theorem tc_L_law_24 {N ρ δ : Nat} {Q : xm_O → xm_H → Prop} {w : Int32 × xm_H} (hQ : (∃ ρ δ, xS ρ δ w.2) → Q (xji w.1) w.2) {rec : Int32 → xm_H → Option (Int32 × xm_H)} (ih : ∀ (c5 : Int32) (h : xm_H), (∃ ρ δ, xS ρ δ h) → rec c5 h = some w → xm_W (xm_Rn xX 60) xM_L_law Q 28 [some (.ref 0), some (.ref 160), some (.ref 302), some (.ref 316), some (.ref 317), some (.int c5), none, none, none] [] h) : ∀ (c5 : Int32) (h : xm_H), xS ρ δ h → f_L_law_c24 N ρ δ rec c5 h = some w → xm_W (xm_Rn xX 60) xM_L_law Q 1571 [some (.ref 0), some (.ref 160), some (.ref 302), some (.ref 316), some (.ref 317), some (.int c5), none, none, none] [] h := by
  intro c5 h hS hf
  unfold f_L_law_c24 at hf
  refine xw_G (pc' := 1572) (st' := [.ref 160]) rfl rfl trivial ?_
  refine xw_G (pc' := 1573) (st' := [.ref 0, .ref 160]) rfl rfl trivial ?_
  refine xw_G (pc' := 1575) (st' := [.int c5, .ref 0, .ref 160]) rfl rfl trivial ?_
  refine xw_G (pc' := 1576) (st' := [.int (1 : Int32), .int c5, .ref 0, .ref 160]) rfl rfl trivial ?_
  refine xw_G (pc' := 1577) (st' := [.int (c5 + (1 : Int32)), .ref 0, .ref 160]) rfl rfl trivial ?_
  refine xg_e hf (fun hg1 hf => ?_)
  refine xg_e hf (fun hg2 hf => ?_)
  refine xa_ld (t := 100) (τ := 0) (v := .int (xm_i h 0 (Int32.toNatClampNeg (c5 + (1 : Int32))))) rfl rfl hg1 rfl hg2 rfl ?_
  refine xw_G (pc' := 1579) (st' := [.ref 0, .int (xm_i h 0 (Int32.toNatClampNeg (c5 + (1 : Int32)))), .ref 160]) rfl rfl trivial ?_
  refine xw_G (pc' := 1581) (st' := [.int c5, .ref 0, .int (xm_i h 0 (Int32.toNatClampNeg (c5 + (1 : Int32)))), .ref 160]) rfl rfl trivial ?_
  refine xw_G (pc' := 1582) (st' := [.int (2 : Int32), .int c5, .ref 0, .int (xm_i h 0 (Int32.toNatClampNeg (c5 + (1 : Int32)))), .ref 160]) rfl rfl trivial ?_
  refine xw_G (pc' := 1583) (st' := [.int (c5 + (2 : Int32)), .ref 0, .int (xm_i h 0 (Int32.toNatClampNeg (c5 + (1 : Int32)))), .ref 160]) rfl rfl trivial ?_
  refine xg_e hf (fun hg3 hf => ?_)
  refine xa_ld (t := 100) (τ := 0) (v := .int (xm_i h 0 (Int32.toNatClampNeg (c5 + (2 : Int32))))) rfl rfl hg1 rfl hg3 rfl ?_
  refine xw_G (pc' := 1585) (st' := [.ref 0, .int (xm_i h 0 (Int32.toNatClampNeg (c5 + (2 : Int32)))), .int (xm_i h 0 (Int32.toNatClampNeg (c5 + (1 : Int32)))), .ref 160]) rfl rfl trivial ?_
  refine xw_G (pc' := 1587) (st' := [.int c5, .ref 0, .int (xm_i h 0 (Int32.toNatClampNeg (c5 + (2 : Int32)))), .int (xm_i h 0 (Int32.toNatClampNeg (c5 + (1 : Int32)))), .ref 160]) rfl rfl trivial ?_
  refine xw_G (pc' := 1588) (st' := [.int (3 : Int32), .int c5, .ref 0, .int (xm_i h 0 (Int32.toNatClampNeg (c5 + (2 : Int32)))), .int (xm_i h 0 (Int32.toNatClampNeg (c5 + (1 : Int32)))), .ref 160]) rfl rfl trivial ?_
  refine xw_G (pc' := 1589) (st' := [.int (c5 + (3 : Int32)), .ref 0, .int (xm_i h 0 (Int32.toNatClampNeg (c5 + (2 : Int32)))), .int (xm_i h 0 (Int32.toNatClampNeg (c5 + (1 : Int32)))), .ref 160]) rfl rfl trivial ?_
  refine xg_e hf (fun hg4 hf => ?_)
  refine xa_ld (t := 100) (τ := 0) (v := .int (xm_i h 0 (Int32.toNatClampNeg (c5 + (3 : Int32))))) rfl rfl hg1 rfl hg4 rfl ?_
  refine xw_G (pc' := 1591) (st' := [.ref 0, .int (xm_i h 0 (Int32.toNatClampNeg (c5 + (3 : Int32)))), .int (xm_i h 0 (Int32.toNatClampNeg (c5 + (2 : Int32)))), .int (xm_i h 0 (Int32.toNatClampNeg (c5 + (1 : Int32)))), .ref 160]) rfl rfl trivial ?_
  refine xw_G (pc' := 1593) (st' := [.int c5, .ref 0, .int (xm_i h 0 (Int32.toNatClampNeg (c5 + (3 : Int32)))), .int (xm_i h 0 (Int32.toNatClampNeg (c5 + (2 : Int32)))), .int (xm_i h 0 (Int32.toNatClampNeg (c5 + (1 : Int32)))), .ref 160]) rfl rfl trivial ?_
  refine xw_G (pc' := 1594) (st' := [.int (4 : Int32), .int c5, .ref 0, .int (xm_i h 0 (Int32.toNatClampNeg (c5 + (3 : Int32)))), .int (xm_i h 0 (Int32.toNatClampNeg (c5 + (2 : Int32)))), .int (xm_i h 0 (Int32.toNatClampNeg (c5 + (1 : Int32)))), .ref 160]) rfl rfl trivial ?_
  refine xw_G (pc' := 1595) (st' := [.int (c5 + (4 : Int32)), .ref 0, .int (xm_i h 0 (Int32.toNatClampNeg (c5 + (3 : Int32)))), .int (xm_i h 0 (Int32.toNatClampNeg (c5 + (2 : Int32)))), .int (xm_i h 0 (Int32.toNatClampNeg (c5 + (1 : Int32)))), .ref 160]) rfl rfl trivial ?_
  refine xg_e hf (fun hg5 hf => ?_)
  refine xa_ld (t := 100) (τ := 0) (v := .int (xm_i h 0 (Int32.toNatClampNeg (c5 + (4 : Int32))))) rfl rfl hg1 rfl hg5 rfl ?_
  refine xw_G (pc' := 1597) (st' := [.ref 316, .int (xm_i h 0 (Int32.toNatClampNeg (c5 + (4 : Int32)))), .int (xm_i h 0 (Int32.toNatClampNeg (c5 + (3 : Int32)))), .int (xm_i h 0 (Int32.toNatClampNeg (c5 + (2 : Int32)))), .int (xm_i h 0 (Int32.toNatClampNeg (c5 + (1 : Int32)))), .ref 160]) rfl rfl trivial ?_
  refine xb_e hf (fun v6 h7 e8 hf => ?_)
  refine xw_S10 (v := some (.int v6)) rfl (Nat.le_of_ble_eq_true rfl) (Nat.le_of_ble_eq_true rfl) (xm_Rn_le (Nat.le_of_ble_eq_true rfl) (t_L_bestMode  hS e8).1) ?_
  have hS := (t_L_bestMode  hS e8).2
  show xm_W _ _ _ 1600 _ [.int v6] _
  refine xw_G (pc' := 1602) (ls' := [some (.ref 0), some (.ref 160), some (.ref 302), some (.ref 316), some (.ref 317), some (.int c5), some (.int v6), none, none]) (st' := []) rfl rfl (Nat.le_of_ble_eq_true rfl) ?_
  refine xw_G (pc' := 1603) (st' := [.ref 302]) rfl rfl trivial ?_
  refine xw_G (pc' := 1604) (st' := [.ref 0, .ref 302]) rfl rfl trivial ?_
  refine xw_G (pc' := 1606) (st' := [.int c5, .ref 0, .ref 302]) rfl rfl trivial ?_
  refine xw_G (pc' := 1607) (st' := [.int (1 : Int32), .int c5, .ref 0, .ref 302]) rfl rfl trivial ?_
  refine xw_G (pc' := 1608) (st' := [.int (c5 + (1 : Int32)), .ref 0, .ref 302]) rfl rfl trivial ?_
  refine xg_e hf (fun hg9 hf => ?_)
  refine xg_e hf (fun hg10 hf => ?_)
  refine xa_ld (t := 100) (τ := 0) (v := .int (xm_i h7 0 (Int32.toNatClampNeg (c5 + (1 : Int32))))) rfl rfl hg9 rfl hg10 rfl ?_
  refine xw_G (pc' := 1610) (st' := [.ref 0, .int (xm_i h7 0 (Int32.toNatClampNeg (c5 + (1 : Int32)))), .ref 302]) rfl rfl trivial ?_
  refine xw_G (pc' := 1612) (st' := [.int c5, .ref 0, .int (xm_i h7 0 (Int32.toNatClampNeg (c5 + (1 : Int32)))), .ref 302]) rfl rfl trivial ?_
  refine xw_G (pc' := 1613) (st' := [.int (2 : Int32), .int c5, .ref 0, .int (xm_i h7 0 (Int32.toNatClampNeg (c5 + (1 : Int32)))), .ref 302]) rfl rfl trivial ?_
  refine xw_G (pc' := 1614) (st' := [.int (c5 + (2 : Int32)), .ref 0, .int (xm_i h7 0 (Int32.toNatClampNeg (c5 + (1 : Int32)))), .ref 302]) rfl rfl trivial ?_
  refine xg_e hf (fun hg11 hf => ?_)
  refine xa_ld (t := 100) (τ := 0) (v := .int (xm_i h7 0 (Int32.toNatClampNeg (c5 + (2 : Int32))))) rfl rfl hg9 rfl hg11 rfl ?_
  refine xw_G (pc' := 1616) (st' := [.ref 0, .int (xm_i h7 0 (Int32.toNatClampNeg (c5 + (2 : Int32)))), .int (xm_i h7 0 (Int32.toNatClampNeg (c5 + (1 : Int32)))), .ref 302]) rfl rfl trivial ?_
  refine xw_G (pc' := 1618) (st' := [.int c5, .ref 0, .int (xm_i h7 0 (Int32.toNatClampNeg (c5 + (2 : Int32)))), .int (xm_i h7 0 (Int32.toNatClampNeg (c5 + (1 : Int32)))), .ref 302]) rfl rfl trivial ?_
  refine xw_G (pc' := 1619) (st' := [.int (3 : Int32), .int c5, .ref 0, .int (xm_i h7 0 (Int32.toNatClampNeg (c5 + (2 : Int32)))), .int (xm_i h7 0 (Int32.toNatClampNeg (c5 + (1 : Int32)))), .ref 302]) rfl rfl trivial ?_
  refine xw_G (pc' := 1620) (st' := [.int (c5 + (3 : Int32)), .ref 0, .int (xm_i h7 0 (Int32.toNatClampNeg (c5 + (2 : Int32)))), .int (xm_i h7 0 (Int32.toNatClampNeg (c5 + (1 : Int32)))), .ref 302]) rfl rfl trivial ?_
  refine xg_e hf (fun hg12 hf => ?_)
  refine xa_ld (t := 100) (τ := 0) (v := .int (xm_i h7 0 (Int32.toNatClampNeg (c5 + (3 : Int32))))) rfl rfl hg9 rfl hg12 rfl ?_
  refine xw_G (pc' := 1622) (st' := [.ref 0, .int (xm_i h7 0 (Int32.toNatClampNeg (c5 + (3 : Int32)))), .int (xm_i h7 0 (Int32.toNatClampNeg (c5 + (2 : Int32)))), .int (xm_i h7 0 (Int32.toNatClampNeg (c5 + (1 : Int32)))), .ref 302]) rfl rfl trivial ?_
  refine xw_G (pc' := 1624) (st' := [.int c5, .ref 0, .int (xm_i h7 0 (Int32.toNatClampNeg (c5 + (3 : Int32)))), .int (xm_i h7 0 (Int32.toNatClampNeg (c5 + (2 : Int32)))), .int (xm_i h7 0 (Int32.toNatClampNeg (c5 + (1 : Int32)))), .ref 302]) rfl rfl trivial ?_
  refine xw_G (pc' := 1625) (st' := [.int (4 : Int32), .int c5, .ref 0, .int (xm_i h7 0 (Int32.toNatClampNeg (c5 + (3 : Int32)))), .int (xm_i h7 0 (Int32.toNatClampNeg (c5 + (2 : Int32)))), .int (xm_i h7 0 (Int32.toNatClampNeg (c5 + (1 : Int32)))), .ref 302]) rfl rfl trivial ?_
  refine xw_G (pc' := 1626) (st' := [.int (c5 + (4 : Int32)), .ref 0, .int (xm_i h7 0 (Int32.toNatClampNeg (c5 + (3 : Int32)))), .int (xm_i h7 0 (Int32.toNatClampNeg (c5 + (2 : Int32)))), .int (xm_i h7 0 (Int32.toNatClampNeg (c5 + (1 : Int32)))), .ref 302]) rfl rfl trivial ?_
  refine xg_e hf (fun hg13 hf => ?_)
  refine xa_ld (t := 100) (τ := 0) (v := .int (xm_i h7 0 (Int32.toNatClampNeg (c5 + (4 : Int32))))) rfl rfl hg9 rfl hg13 rfl ?_
  refine xb_e hf (fun v14 h15 e16 hf => ?_)
  refine xw_V (v := some (.int v14)) rfl rfl (xkf (xs_k hS rfl rfl : xm_k h7 302 = (11, 0))) (Nat.le_of_ble_eq_true rfl) (Nat.le_of_ble_eq_true rfl) (xm_Rn_le (Nat.le_of_ble_eq_true rfl) (t_X11_bestMode  hS e16).1) ?_
  have hS := (t_X11_bestMode  hS e16).2
  show xm_W _ _ _ 1630 _ [.int v14] _
  refine xw_G (pc' := 1632) (ls' := [some (.ref 0), some (.ref 160), some (.ref 302), some (.ref 316), some (.ref 317), some (.int c5), some (.int v6), some (.int v14), none]) (st' := []) rfl rfl (Nat.le_of_ble_eq_true rfl) ?_
  refine xw_G (pc' := 1633) (st' := [.ref 302]) rfl rfl trivial ?_
  refine xb_e hf (fun v17 h18 e19 hf => ?_)
  refine xw_V (v := some (.int v17)) rfl rfl (xkf (xs_k hS rfl rfl : xm_k h15 302 = (11, 0))) (Nat.le_of_ble_eq_true rfl) (Nat.le_of_ble_eq_true rfl) (xm_Rn_le (Nat.le_of_ble_eq_true rfl) (t_X11_thrown  hS e19).1) ?_
  have hS := (t_X11_thrown  hS e19).2
  show xm_W _ _ _ 1636 _ [.int v17] _
  refine xw_G (pc' := 1638) (st' := [.int v6, .int v17]) rfl rfl trivial ?_
  refine xj_ic_eq rfl hf (fun hc20 hf => ?_) (fun hc20 hf => ?_)
  · refine xw_G (pc' := 1645) (st' := [.int v6]) rfl rfl trivial ?_
    refine xj_if_ne rfl hf (fun hc21 hf => ?_) (fun hc21 hf => ?_)
    · refine xw_G (pc' := 1649) (st' := [.ref 316]) rfl rfl trivial ?_
      refine xw_G (pc' := 1650) (st' := [.int (0 : Int32), .ref 316]) rfl rfl trivial ?_
      refine xa_ld (t := 104) (τ := 4) (v := .long (xm_l h18 316 0)) rfl rfl (xkf (xs_k hS rfl rfl : xm_k h18 316 = (104, 1))) (xkn (xs_k hS rfl rfl : xm_k h18 316 = (104, 1))) (by decide : xin (0 : Int32) 1) rfl ?_
      refine xw_G (pc' := 1653) (st' := [.int v14, .long (xm_l h18 316 0)]) rfl rfl trivial ?_
      refine xw_G (pc' := 1654) (st' := [.long (Int32.toInt64 v14), .long (xm_l h18 316 0)]) rfl rfl trivial ?_
      refine xw_G (pc' := 1655) (st' := [.int (lg_cmp (xm_l h18 316 0) (Int32.toInt64 v14))]) rfl rfl trivial ?_
      refine xj_if_eq rfl hf (fun hc22 hf => ?_) (fun hc22 hf => ?_)
      · refine xw_G (pc' := 2876) (st' := []) rfl rfl trivial ?_
        refine xw_G (pc' := 2879) (ls' := [some (.ref 0), some (.ref 160), some (.ref 302), some (.ref 316), some (.ref 317), some (.int (c5 + (6 : Int32))), some (.int v6), some (.int v14), none]) (st' := []) rfl rfl (Nat.le_of_ble_eq_true rfl) ?_
        refine xw_G (pc' := 28) (st' := []) rfl rfl trivial ?_
        refine xw_M rfl rfl ?_
        exact ih _ _ ⟨_, _, hS⟩ hf
      · refine xw_G (pc' := 1659) (st' := [.int (0 : Int32)]) rfl rfl trivial ?_
        exact xr_i (inj := xji) (φ := fun h => ∃ ρ δ, xS ρ δ h) rfl rfl rfl rfl hf hQ ⟨_, _, hS⟩
    · refine xw_G (pc' := 2876) (st' := []) rfl rfl trivial ?_
      refine xw_G (pc' := 2879) (ls' := [some (.ref 0), some (.ref 160), some (.ref 302), some (.ref 316), some (.ref 317), some (.int (c5 + (6 : Int32))), some (.int v6), some (.int v14), none]) (st' := []) rfl rfl (Nat.le_of_ble_eq_true rfl) ?_
      refine xw_G (pc' := 28) (st' := []) rfl rfl trivial ?_
      refine xw_M rfl rfl ?_
      exact ih _ _ ⟨_, _, hS⟩ hf
  · refine xw_G (pc' := 1642) (st' := [.int (0 : Int32)]) rfl rfl trivial ?_
    exact xr_i (inj := xji) (φ := fun h => ∃ ρ δ, xS ρ δ h) rfl rfl rfl rfl hf hQ ⟨_, _, hS⟩

theorem tc_L_law_25 {N ρ δ : Nat} {Q : xm_O → xm_H → Prop} {w : Int32 × xm_H} (hQ : (∃ ρ δ, xS ρ δ w.2) → Q (xji w.1) w.2) {rec : Int32 → xm_H → Option (Int32 × xm_H)} (ih : ∀ (c5 : Int32) (h : xm_H), (∃ ρ δ, xS ρ δ h) → rec c5 h = some w → xm_W (xm_Rn xX 60) xM_L_law Q 28 [some (.ref 0), some (.ref 160), some (.ref 302), some (.ref 316), some (.ref 317), some (.int c5), none, none, none] [] h) : ∀ (c5 : Int32) (h : xm_H), xS ρ δ h → f_L_law_c25 N ρ δ rec c5 h = some w → xm_W (xm_Rn xX 60) xM_L_law Q 1663 [some (.ref 0), some (.ref 160), some (.ref 302), some (.ref 316), some (.ref 317), some (.int c5), none, none, none] [] h := by
  intro c5 h hS hf
  unfold f_L_law_c25 at hf
  refine xw_G (pc' := 1664) (st' := [.ref 160]) rfl rfl trivial ?_
  refine xw_G (pc' := 1665) (st' := [.ref 0, .ref 160]) rfl rfl trivial ?_
  refine xw_G (pc' := 1667) (st' := [.int c5, .ref 0, .ref 160]) rfl rfl trivial ?_
  refine xw_G (pc' := 1668) (st' := [.int (1 : Int32), .int c5, .ref 0, .ref 160]) rfl rfl trivial ?_
  refine xw_G (pc' := 1669) (st' := [.int (c5 + (1 : Int32)), .ref 0, .ref 160]) rfl rfl trivial ?_
  refine xg_e hf (fun hg1 hf => ?_)
  refine xg_e hf (fun hg2 hf => ?_)
  refine xa_ld (t := 100) (τ := 0) (v := .int (xm_i h 0 (Int32.toNatClampNeg (c5 + (1 : Int32))))) rfl rfl hg1 rfl hg2 rfl ?_
  refine xw_G (pc' := 1671) (st' := [.ref 0, .int (xm_i h 0 (Int32.toNatClampNeg (c5 + (1 : Int32)))), .ref 160]) rfl rfl trivial ?_
  refine xw_G (pc' := 1673) (st' := [.int c5, .ref 0, .int (xm_i h 0 (Int32.toNatClampNeg (c5 + (1 : Int32)))), .ref 160]) rfl rfl trivial ?_
  refine xw_G (pc' := 1674) (st' := [.int (2 : Int32), .int c5, .ref 0, .int (xm_i h 0 (Int32.toNatClampNeg (c5 + (1 : Int32)))), .ref 160]) rfl rfl trivial ?_
  refine xw_G (pc' := 1675) (st' := [.int (c5 + (2 : Int32)), .ref 0, .int (xm_i h 0 (Int32.toNatClampNeg (c5 + (1 : Int32)))), .ref 160]) rfl rfl trivial ?_
  refine xg_e hf (fun hg3 hf => ?_)
  refine xa_ld (t := 100) (τ := 0) (v := .int (xm_i h 0 (Int32.toNatClampNeg (c5 + (2 : Int32))))) rfl rfl hg1 rfl hg3 rfl ?_
  refine xw_G (pc' := 1677) (st' := [.ref 0, .int (xm_i h 0 (Int32.toNatClampNeg (c5 + (2 : Int32)))), .int (xm_i h 0 (Int32.toNatClampNeg (c5 + (1 : Int32)))), .ref 160]) rfl rfl trivial ?_
  refine xw_G (pc' := 1679) (st' := [.int c5, .ref 0, .int (xm_i h 0 (Int32.toNatClampNeg (c5 + (2 : Int32)))), .int (xm_i h 0 (Int32.toNatClampNeg (c5 + (1 : Int32)))), .ref 160]) rfl rfl trivial ?_
  refine xw_G (pc' := 1680) (st' := [.int (3 : Int32), .int c5, .ref 0, .int (xm_i h 0 (Int32.toNatClampNeg (c5 + (2 : Int32)))), .int (xm_i h 0 (Int32.toNatClampNeg (c5 + (1 : Int32)))), .ref 160]) rfl rfl trivial ?_
  refine xw_G (pc' := 1681) (st' := [.int (c5 + (3 : Int32)), .ref 0, .int (xm_i h 0 (Int32.toNatClampNeg (c5 + (2 : Int32)))), .int (xm_i h 0 (Int32.toNatClampNeg (c5 + (1 : Int32)))), .ref 160]) rfl rfl trivial ?_
  refine xg_e hf (fun hg4 hf => ?_)
  refine xa_ld (t := 100) (τ := 0) (v := .int (xm_i h 0 (Int32.toNatClampNeg (c5 + (3 : Int32))))) rfl rfl hg1 rfl hg4 rfl ?_
  refine xw_G (pc' := 1683) (st' := [.ref 316, .int (xm_i h 0 (Int32.toNatClampNeg (c5 + (3 : Int32)))), .int (xm_i h 0 (Int32.toNatClampNeg (c5 + (2 : Int32)))), .int (xm_i h 0 (Int32.toNatClampNeg (c5 + (1 : Int32)))), .ref 160]) rfl rfl trivial ?_
  refine xb_e hf (fun v5 h6 e7 hf => ?_)
  refine xw_S10 (v := some (.int v5)) rfl (Nat.le_of_ble_eq_true rfl) (Nat.le_of_ble_eq_true rfl) (xm_Rn_le (Nat.le_of_ble_eq_true rfl) (t_L_request  hS e7).1) ?_
  have hS := (t_L_request  hS e7).2
  show xm_W _ _ _ 1686 _ [.int v5] _
  refine xw_G (pc' := 1688) (ls' := [some (.ref 0), some (.ref 160), some (.ref 302), some (.ref 316), some (.ref 317), some (.int c5), some (.int v5), none, none]) (st' := []) rfl rfl (Nat.le_of_ble_eq_true rfl) ?_
  refine xw_G (pc' := 1689) (st' := [.ref 302]) rfl rfl trivial ?_
  refine xw_G (pc' := 1690) (st' := [.ref 0, .ref 302]) rfl rfl trivial ?_
  refine xw_G (pc' := 1692) (st' := [.int c5, .ref 0, .ref 302]) rfl rfl trivial ?_
  refine xw_G (pc' := 1693) (st' := [.int (1 : Int32), .int c5, .ref 0, .ref 302]) rfl rfl trivial ?_
  refine xw_G (pc' := 1694) (st' := [.int (c5 + (1 : Int32)), .ref 0, .ref 302]) rfl rfl trivial ?_
  refine xg_e hf (fun hg8 hf => ?_)
  refine xg_e hf (fun hg9 hf => ?_)
  refine xa_ld (t := 100) (τ := 0) (v := .int (xm_i h6 0 (Int32.toNatClampNeg (c5 + (1 : Int32))))) rfl rfl hg8 rfl hg9 rfl ?_
  refine xw_G (pc' := 1696) (st' := [.ref 0, .int (xm_i h6 0 (Int32.toNatClampNeg (c5 + (1 : Int32)))), .ref 302]) rfl rfl trivial ?_
  refine xw_G (pc' := 1698) (st' := [.int c5, .ref 0, .int (xm_i h6 0 (Int32.toNatClampNeg (c5 + (1 : Int32)))), .ref 302]) rfl rfl trivial ?_
  refine xw_G (pc' := 1699) (st' := [.int (2 : Int32), .int c5, .ref 0, .int (xm_i h6 0 (Int32.toNatClampNeg (c5 + (1 : Int32)))), .ref 302]) rfl rfl trivial ?_
  refine xw_G (pc' := 1700) (st' := [.int (c5 + (2 : Int32)), .ref 0, .int (xm_i h6 0 (Int32.toNatClampNeg (c5 + (1 : Int32)))), .ref 302]) rfl rfl trivial ?_
  refine xg_e hf (fun hg10 hf => ?_)
  refine xa_ld (t := 100) (τ := 0) (v := .int (xm_i h6 0 (Int32.toNatClampNeg (c5 + (2 : Int32))))) rfl rfl hg8 rfl hg10 rfl ?_
  refine xw_G (pc' := 1702) (st' := [.ref 0, .int (xm_i h6 0 (Int32.toNatClampNeg (c5 + (2 : Int32)))), .int (xm_i h6 0 (Int32.toNatClampNeg (c5 + (1 : Int32)))), .ref 302]) rfl rfl trivial ?_
  refine xw_G (pc' := 1704) (st' := [.int c5, .ref 0, .int (xm_i h6 0 (Int32.toNatClampNeg (c5 + (2 : Int32)))), .int (xm_i h6 0 (Int32.toNatClampNeg (c5 + (1 : Int32)))), .ref 302]) rfl rfl trivial ?_
  refine xw_G (pc' := 1705) (st' := [.int (3 : Int32), .int c5, .ref 0, .int (xm_i h6 0 (Int32.toNatClampNeg (c5 + (2 : Int32)))), .int (xm_i h6 0 (Int32.toNatClampNeg (c5 + (1 : Int32)))), .ref 302]) rfl rfl trivial ?_
  refine xw_G (pc' := 1706) (st' := [.int (c5 + (3 : Int32)), .ref 0, .int (xm_i h6 0 (Int32.toNatClampNeg (c5 + (2 : Int32)))), .int (xm_i h6 0 (Int32.toNatClampNeg (c5 + (1 : Int32)))), .ref 302]) rfl rfl trivial ?_
  refine xg_e hf (fun hg11 hf => ?_)
  refine xa_ld (t := 100) (τ := 0) (v := .int (xm_i h6 0 (Int32.toNatClampNeg (c5 + (3 : Int32))))) rfl rfl hg8 rfl hg11 rfl ?_
  refine xb_e hf (fun v12 h13 e14 hf => ?_)
  refine xw_V (v := some (.int v12)) rfl rfl (xkf (xs_k hS rfl rfl : xm_k h6 302 = (11, 0))) (Nat.le_of_ble_eq_true rfl) (Nat.le_of_ble_eq_true rfl) (xm_Rn_le (Nat.le_of_ble_eq_true rfl) (t_X11_request  hS e14).1) ?_
  have hS := (t_X11_request  hS e14).2
  show xm_W _ _ _ 1710 _ [.int v12] _
  refine xw_G (pc' := 1712) (ls' := [some (.ref 0), some (.ref 160), some (.ref 302), some (.ref 316), some (.ref 317), some (.int c5), some (.int v5), some (.int v12), none]) (st' := []) rfl rfl (Nat.le_of_ble_eq_true rfl) ?_
  refine xw_G (pc' := 1713) (st' := [.ref 302]) rfl rfl trivial ?_
  refine xb_e hf (fun v15 h16 e17 hf => ?_)
  refine xw_V (v := some (.int v15)) rfl rfl (xkf (xs_k hS rfl rfl : xm_k h13 302 = (11, 0))) (Nat.le_of_ble_eq_true rfl) (Nat.le_of_ble_eq_true rfl) (xm_Rn_le (Nat.le_of_ble_eq_true rfl) (t_X11_thrown  hS e17).1) ?_
  have hS := (t_X11_thrown  hS e17).2
  show xm_W _ _ _ 1716 _ [.int v15] _
  refine xw_G (pc' := 1718) (st' := [.int v5, .int v15]) rfl rfl trivial ?_
  refine xj_ic_eq rfl hf (fun hc18 hf => ?_) (fun hc18 hf => ?_)
  · refine xw_G (pc' := 1725) (st' := [.int v5]) rfl rfl trivial ?_
    refine xj_if_ne rfl hf (fun hc19 hf => ?_) (fun hc19 hf => ?_)
    · refine xw_G (pc' := 1729) (st' := [.ref 316]) rfl rfl trivial ?_
      refine xw_G (pc' := 1730) (st' := [.int (0 : Int32), .ref 316]) rfl rfl trivial ?_
      refine xa_ld (t := 104) (τ := 4) (v := .long (xm_l h16 316 0)) rfl rfl (xkf (xs_k hS rfl rfl : xm_k h16 316 = (104, 1))) (xkn (xs_k hS rfl rfl : xm_k h16 316 = (104, 1))) (by decide : xin (0 : Int32) 1) rfl ?_
      refine xw_G (pc' := 1733) (st' := [.int v12, .long (xm_l h16 316 0)]) rfl rfl trivial ?_
      refine xw_G (pc' := 1734) (st' := [.long (Int32.toInt64 v12), .long (xm_l h16 316 0)]) rfl rfl trivial ?_
      refine xw_G (pc' := 1735) (st' := [.int (lg_cmp (xm_l h16 316 0) (Int32.toInt64 v12))]) rfl rfl trivial ?_
      refine xj_if_eq rfl hf (fun hc20 hf => ?_) (fun hc20 hf => ?_)
      · refine xw_G (pc' := 2876) (st' := []) rfl rfl trivial ?_
        refine xw_G (pc' := 2879) (ls' := [some (.ref 0), some (.ref 160), some (.ref 302), some (.ref 316), some (.ref 317), some (.int (c5 + (6 : Int32))), some (.int v5), some (.int v12), none]) (st' := []) rfl rfl (Nat.le_of_ble_eq_true rfl) ?_
        refine xw_G (pc' := 28) (st' := []) rfl rfl trivial ?_
        refine xw_M rfl rfl ?_
        exact ih _ _ ⟨_, _, hS⟩ hf
      · refine xw_G (pc' := 1739) (st' := [.int (0 : Int32)]) rfl rfl trivial ?_
        exact xr_i (inj := xji) (φ := fun h => ∃ ρ δ, xS ρ δ h) rfl rfl rfl rfl hf hQ ⟨_, _, hS⟩
    · refine xw_G (pc' := 2876) (st' := []) rfl rfl trivial ?_
      refine xw_G (pc' := 2879) (ls' := [some (.ref 0), some (.ref 160), some (.ref 302), some (.ref 316), some (.ref 317), some (.int (c5 + (6 : Int32))), some (.int v5), some (.int v12), none]) (st' := []) rfl rfl (Nat.le_of_ble_eq_true rfl) ?_
      refine xw_G (pc' := 28) (st' := []) rfl rfl trivial ?_
      refine xw_M rfl rfl ?_
      exact ih _ _ ⟨_, _, hS⟩ hf
  · refine xw_G (pc' := 1722) (st' := [.int (0 : Int32)]) rfl rfl trivial ?_
    exact xr_i (inj := xji) (φ := fun h => ∃ ρ δ, xS ρ δ h) rfl rfl rfl rfl hf hQ ⟨_, _, hS⟩
