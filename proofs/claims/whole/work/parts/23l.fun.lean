/-! printed by wip/gen/gen23.py: methods as functions of their arguments and the heap -/

theorem tc_L_law_26 {N ρ δ : Nat} {Q : xm_O → xm_H → Prop} {w : Int32 × xm_H} (hQ : (∃ ρ δ, xS ρ δ w.2) → Q (xji w.1) w.2) {rec : Int32 → xm_H → Option (Int32 × xm_H)} (ih : ∀ (c5 : Int32) (h : xm_H), (∃ ρ δ, xS ρ δ h) → rec c5 h = some w → xm_W (xm_Rn xX 60) xM_L_law Q 28 [some (.ref 0), some (.ref 160), some (.ref 302), some (.ref 316), some (.ref 317), some (.int c5), none, none, none] [] h) : ∀ (c5 : Int32) (h : xm_H), xS ρ δ h → f_L_law_c26 N ρ δ rec c5 h = some w → xm_W (xm_Rn xX 60) xM_L_law Q 1743 [some (.ref 0), some (.ref 160), some (.ref 302), some (.ref 316), some (.ref 317), some (.int c5), none, none, none] [] h := by
  intro c5 h hS hf
  unfold f_L_law_c26 at hf
  refine xw_G (pc' := 1744) (st' := [.ref 160]) rfl rfl trivial ?_
  refine xw_G (pc' := 1745) (st' := [.ref 0, .ref 160]) rfl rfl trivial ?_
  refine xw_G (pc' := 1747) (st' := [.int c5, .ref 0, .ref 160]) rfl rfl trivial ?_
  refine xw_G (pc' := 1748) (st' := [.int (1 : Int32), .int c5, .ref 0, .ref 160]) rfl rfl trivial ?_
  refine xw_G (pc' := 1749) (st' := [.int (c5 + (1 : Int32)), .ref 0, .ref 160]) rfl rfl trivial ?_
  refine xg_e hf (fun hg1 hf => ?_)
  refine xg_e hf (fun hg2 hf => ?_)
  refine xa_ld (t := 100) (τ := 0) (v := .int (xm_i h 0 (Int32.toNatClampNeg (c5 + (1 : Int32))))) rfl rfl hg1 rfl hg2 rfl ?_
  refine xw_G (pc' := 1751) (st' := [.ref 316, .int (xm_i h 0 (Int32.toNatClampNeg (c5 + (1 : Int32)))), .ref 160]) rfl rfl trivial ?_
  refine xb_e hf (fun v3 h4 e5 hf => ?_)
  refine xw_S10 (v := some (.int v3)) rfl (Nat.le_of_ble_eq_true rfl) (Nat.le_of_ble_eq_true rfl) (xm_Rn_le (Nat.le_of_ble_eq_true rfl) (t_L_pass  hS e5).1) ?_
  have hS := (t_L_pass  hS e5).2
  show xm_W _ _ _ 1754 _ [.int v3] _
  refine xw_G (pc' := 1756) (ls' := [some (.ref 0), some (.ref 160), some (.ref 302), some (.ref 316), some (.ref 317), some (.int c5), some (.int v3), none, none]) (st' := []) rfl rfl (Nat.le_of_ble_eq_true rfl) ?_
  refine xw_G (pc' := 1757) (st' := [.ref 302]) rfl rfl trivial ?_
  refine xw_G (pc' := 1758) (st' := [.ref 0, .ref 302]) rfl rfl trivial ?_
  refine xw_G (pc' := 1760) (st' := [.int c5, .ref 0, .ref 302]) rfl rfl trivial ?_
  refine xw_G (pc' := 1761) (st' := [.int (1 : Int32), .int c5, .ref 0, .ref 302]) rfl rfl trivial ?_
  refine xw_G (pc' := 1762) (st' := [.int (c5 + (1 : Int32)), .ref 0, .ref 302]) rfl rfl trivial ?_
  refine xg_e hf (fun hg6 hf => ?_)
  refine xg_e hf (fun hg7 hf => ?_)
  refine xa_ld (t := 100) (τ := 0) (v := .int (xm_i h4 0 (Int32.toNatClampNeg (c5 + (1 : Int32))))) rfl rfl hg6 rfl hg7 rfl ?_
  refine xb_e hf (fun v8 h9 e10 hf => ?_)
  refine xw_V (v := some (.int v8)) rfl rfl (xkf (xs_k hS rfl rfl : xm_k h4 302 = (11, 0))) (Nat.le_of_ble_eq_true rfl) (Nat.le_of_ble_eq_true rfl) (xm_Rn_le (Nat.le_of_ble_eq_true rfl) (t_X11_pass  hS e10).1) ?_
  have hS := (t_X11_pass  hS e10).2
  show xm_W _ _ _ 1766 _ [.int v8] _
  refine xw_G (pc' := 1768) (ls' := [some (.ref 0), some (.ref 160), some (.ref 302), some (.ref 316), some (.ref 317), some (.int c5), some (.int v3), some (.int v8), none]) (st' := []) rfl rfl (Nat.le_of_ble_eq_true rfl) ?_
  refine xw_G (pc' := 1769) (st' := [.ref 302]) rfl rfl trivial ?_
  refine xb_e hf (fun v11 h12 e13 hf => ?_)
  refine xw_V (v := some (.int v11)) rfl rfl (xkf (xs_k hS rfl rfl : xm_k h9 302 = (11, 0))) (Nat.le_of_ble_eq_true rfl) (Nat.le_of_ble_eq_true rfl) (xm_Rn_le (Nat.le_of_ble_eq_true rfl) (t_X11_thrown  hS e13).1) ?_
  have hS := (t_X11_thrown  hS e13).2
  show xm_W _ _ _ 1772 _ [.int v11] _
  refine xw_G (pc' := 1774) (st' := [.int v3, .int v11]) rfl rfl trivial ?_
  refine xj_ic_eq rfl hf (fun hc14 hf => ?_) (fun hc14 hf => ?_)
  · refine xw_G (pc' := 1781) (st' := [.int v3]) rfl rfl trivial ?_
    refine xj_if_ne rfl hf (fun hc15 hf => ?_) (fun hc15 hf => ?_)
    · refine xw_G (pc' := 1785) (st' := [.ref 316]) rfl rfl trivial ?_
      refine xw_G (pc' := 1786) (st' := [.int (0 : Int32), .ref 316]) rfl rfl trivial ?_
      refine xa_ld (t := 104) (τ := 4) (v := .long (xm_l h12 316 0)) rfl rfl (xkf (xs_k hS rfl rfl : xm_k h12 316 = (104, 1))) (xkn (xs_k hS rfl rfl : xm_k h12 316 = (104, 1))) (by decide : xin (0 : Int32) 1) rfl ?_
      refine xw_G (pc' := 1789) (st' := [.int v8, .long (xm_l h12 316 0)]) rfl rfl trivial ?_
      refine xw_G (pc' := 1790) (st' := [.long (Int32.toInt64 v8), .long (xm_l h12 316 0)]) rfl rfl trivial ?_
      refine xw_G (pc' := 1791) (st' := [.int (lg_cmp (xm_l h12 316 0) (Int32.toInt64 v8))]) rfl rfl trivial ?_
      refine xj_if_eq rfl hf (fun hc16 hf => ?_) (fun hc16 hf => ?_)
      · refine xw_G (pc' := 2876) (st' := []) rfl rfl trivial ?_
        refine xw_G (pc' := 2879) (ls' := [some (.ref 0), some (.ref 160), some (.ref 302), some (.ref 316), some (.ref 317), some (.int (c5 + (6 : Int32))), some (.int v3), some (.int v8), none]) (st' := []) rfl rfl (Nat.le_of_ble_eq_true rfl) ?_
        refine xw_G (pc' := 28) (st' := []) rfl rfl trivial ?_
        refine xw_M rfl rfl ?_
        exact ih _ _ ⟨_, _, hS⟩ hf
      · refine xw_G (pc' := 1795) (st' := [.int (0 : Int32)]) rfl rfl trivial ?_
        exact xr_i (inj := xji) (φ := fun h => ∃ ρ δ, xS ρ δ h) rfl rfl rfl rfl hf hQ ⟨_, _, hS⟩
    · refine xw_G (pc' := 2876) (st' := []) rfl rfl trivial ?_
      refine xw_G (pc' := 2879) (ls' := [some (.ref 0), some (.ref 160), some (.ref 302), some (.ref 316), some (.ref 317), some (.int (c5 + (6 : Int32))), some (.int v3), some (.int v8), none]) (st' := []) rfl rfl (Nat.le_of_ble_eq_true rfl) ?_
      refine xw_G (pc' := 28) (st' := []) rfl rfl trivial ?_
      refine xw_M rfl rfl ?_
      exact ih _ _ ⟨_, _, hS⟩ hf
  · refine xw_G (pc' := 1778) (st' := [.int (0 : Int32)]) rfl rfl trivial ?_
    exact xr_i (inj := xji) (φ := fun h => ∃ ρ δ, xS ρ δ h) rfl rfl rfl rfl hf hQ ⟨_, _, hS⟩

theorem tc_L_law_27 {N ρ δ : Nat} {Q : xm_O → xm_H → Prop} {w : Int32 × xm_H} (hQ : (∃ ρ δ, xS ρ δ w.2) → Q (xji w.1) w.2) {rec : Int32 → xm_H → Option (Int32 × xm_H)} (ih : ∀ (c5 : Int32) (h : xm_H), (∃ ρ δ, xS ρ δ h) → rec c5 h = some w → xm_W (xm_Rn xX 60) xM_L_law Q 28 [some (.ref 0), some (.ref 160), some (.ref 302), some (.ref 316), some (.ref 317), some (.int c5), none, none, none] [] h) : ∀ (c5 : Int32) (h : xm_H), xS ρ δ h → f_L_law_c27 N ρ δ rec c5 h = some w → xm_W (xm_Rn xX 60) xM_L_law Q 1799 [some (.ref 0), some (.ref 160), some (.ref 302), some (.ref 316), some (.ref 317), some (.int c5), none, none, none] [] h := by
  intro c5 h hS hf
  unfold f_L_law_c27 at hf
  refine xw_G (pc' := 1800) (st' := [.ref 160]) rfl rfl trivial ?_
  refine xw_G (pc' := 1801) (st' := [.ref 0, .ref 160]) rfl rfl trivial ?_
  refine xw_G (pc' := 1803) (st' := [.int c5, .ref 0, .ref 160]) rfl rfl trivial ?_
  refine xw_G (pc' := 1804) (st' := [.int (1 : Int32), .int c5, .ref 0, .ref 160]) rfl rfl trivial ?_
  refine xw_G (pc' := 1805) (st' := [.int (c5 + (1 : Int32)), .ref 0, .ref 160]) rfl rfl trivial ?_
  refine xg_e hf (fun hg1 hf => ?_)
  refine xg_e hf (fun hg2 hf => ?_)
  refine xa_ld (t := 100) (τ := 0) (v := .int (xm_i h 0 (Int32.toNatClampNeg (c5 + (1 : Int32))))) rfl rfl hg1 rfl hg2 rfl ?_
  refine xw_G (pc' := 1807) (st' := [.ref 0, .int (xm_i h 0 (Int32.toNatClampNeg (c5 + (1 : Int32)))), .ref 160]) rfl rfl trivial ?_
  refine xw_G (pc' := 1809) (st' := [.int c5, .ref 0, .int (xm_i h 0 (Int32.toNatClampNeg (c5 + (1 : Int32)))), .ref 160]) rfl rfl trivial ?_
  refine xw_G (pc' := 1810) (st' := [.int (2 : Int32), .int c5, .ref 0, .int (xm_i h 0 (Int32.toNatClampNeg (c5 + (1 : Int32)))), .ref 160]) rfl rfl trivial ?_
  refine xw_G (pc' := 1811) (st' := [.int (c5 + (2 : Int32)), .ref 0, .int (xm_i h 0 (Int32.toNatClampNeg (c5 + (1 : Int32)))), .ref 160]) rfl rfl trivial ?_
  refine xg_e hf (fun hg3 hf => ?_)
  refine xa_ld (t := 100) (τ := 0) (v := .int (xm_i h 0 (Int32.toNatClampNeg (c5 + (2 : Int32))))) rfl rfl hg1 rfl hg3 rfl ?_
  refine xw_G (pc' := 1813) (st' := [.ref 316, .int (xm_i h 0 (Int32.toNatClampNeg (c5 + (2 : Int32)))), .int (xm_i h 0 (Int32.toNatClampNeg (c5 + (1 : Int32)))), .ref 160]) rfl rfl trivial ?_
  refine xb_e hf (fun v4 h5 e6 hf => ?_)
  refine xw_S10 (v := some (.int v4)) rfl (Nat.le_of_ble_eq_true rfl) (Nat.le_of_ble_eq_true rfl) (xm_Rn_le (Nat.le_of_ble_eq_true rfl) (t_L_convert  hS e6).1) ?_
  have hS := (t_L_convert  hS e6).2
  show xm_W _ _ _ 1816 _ [.int v4] _
  refine xw_G (pc' := 1818) (ls' := [some (.ref 0), some (.ref 160), some (.ref 302), some (.ref 316), some (.ref 317), some (.int c5), some (.int v4), none, none]) (st' := []) rfl rfl (Nat.le_of_ble_eq_true rfl) ?_
  refine xw_G (pc' := 1819) (st' := [.ref 302]) rfl rfl trivial ?_
  refine xw_G (pc' := 1820) (st' := [.ref 0, .ref 302]) rfl rfl trivial ?_
  refine xw_G (pc' := 1822) (st' := [.int c5, .ref 0, .ref 302]) rfl rfl trivial ?_
  refine xw_G (pc' := 1823) (st' := [.int (1 : Int32), .int c5, .ref 0, .ref 302]) rfl rfl trivial ?_
  refine xw_G (pc' := 1824) (st' := [.int (c5 + (1 : Int32)), .ref 0, .ref 302]) rfl rfl trivial ?_
  refine xg_e hf (fun hg7 hf => ?_)
  refine xg_e hf (fun hg8 hf => ?_)
  refine xa_ld (t := 100) (τ := 0) (v := .int (xm_i h5 0 (Int32.toNatClampNeg (c5 + (1 : Int32))))) rfl rfl hg7 rfl hg8 rfl ?_
  refine xw_G (pc' := 1826) (st' := [.ref 0, .int (xm_i h5 0 (Int32.toNatClampNeg (c5 + (1 : Int32)))), .ref 302]) rfl rfl trivial ?_
  refine xw_G (pc' := 1828) (st' := [.int c5, .ref 0, .int (xm_i h5 0 (Int32.toNatClampNeg (c5 + (1 : Int32)))), .ref 302]) rfl rfl trivial ?_
  refine xw_G (pc' := 1829) (st' := [.int (2 : Int32), .int c5, .ref 0, .int (xm_i h5 0 (Int32.toNatClampNeg (c5 + (1 : Int32)))), .ref 302]) rfl rfl trivial ?_
  refine xw_G (pc' := 1830) (st' := [.int (c5 + (2 : Int32)), .ref 0, .int (xm_i h5 0 (Int32.toNatClampNeg (c5 + (1 : Int32)))), .ref 302]) rfl rfl trivial ?_
  refine xg_e hf (fun hg9 hf => ?_)
  refine xa_ld (t := 100) (τ := 0) (v := .int (xm_i h5 0 (Int32.toNatClampNeg (c5 + (2 : Int32))))) rfl rfl hg7 rfl hg9 rfl ?_
  refine xb_e hf (fun v10 h11 e12 hf => ?_)
  refine xw_V (v := some (.int v10)) rfl rfl (xkf (xs_k hS rfl rfl : xm_k h5 302 = (11, 0))) (Nat.le_of_ble_eq_true rfl) (Nat.le_of_ble_eq_true rfl) (xm_Rn_le (Nat.le_of_ble_eq_true rfl) (t_X11_convert  hS e12).1) ?_
  have hS := (t_X11_convert  hS e12).2
  show xm_W _ _ _ 1834 _ [.int v10] _
  refine xw_G (pc' := 1836) (ls' := [some (.ref 0), some (.ref 160), some (.ref 302), some (.ref 316), some (.ref 317), some (.int c5), some (.int v4), some (.int v10), none]) (st' := []) rfl rfl (Nat.le_of_ble_eq_true rfl) ?_
  refine xw_G (pc' := 1837) (st' := [.ref 302]) rfl rfl trivial ?_
  refine xb_e hf (fun v13 h14 e15 hf => ?_)
  refine xw_V (v := some (.int v13)) rfl rfl (xkf (xs_k hS rfl rfl : xm_k h11 302 = (11, 0))) (Nat.le_of_ble_eq_true rfl) (Nat.le_of_ble_eq_true rfl) (xm_Rn_le (Nat.le_of_ble_eq_true rfl) (t_X11_thrown  hS e15).1) ?_
  have hS := (t_X11_thrown  hS e15).2
  show xm_W _ _ _ 1840 _ [.int v13] _
  refine xw_G (pc' := 1842) (st' := [.int v4, .int v13]) rfl rfl trivial ?_
  refine xj_ic_eq rfl hf (fun hc16 hf => ?_) (fun hc16 hf => ?_)
  · refine xw_G (pc' := 1849) (st' := [.int v4]) rfl rfl trivial ?_
    refine xj_if_ne rfl hf (fun hc17 hf => ?_) (fun hc17 hf => ?_)
    · refine xw_G (pc' := 1853) (st' := [.ref 316]) rfl rfl trivial ?_
      refine xw_G (pc' := 1854) (st' := [.int (0 : Int32), .ref 316]) rfl rfl trivial ?_
      refine xa_ld (t := 104) (τ := 4) (v := .long (xm_l h14 316 0)) rfl rfl (xkf (xs_k hS rfl rfl : xm_k h14 316 = (104, 1))) (xkn (xs_k hS rfl rfl : xm_k h14 316 = (104, 1))) (by decide : xin (0 : Int32) 1) rfl ?_
      refine xw_G (pc' := 1857) (st' := [.int v10, .long (xm_l h14 316 0)]) rfl rfl trivial ?_
      refine xw_G (pc' := 1858) (st' := [.long (Int32.toInt64 v10), .long (xm_l h14 316 0)]) rfl rfl trivial ?_
      refine xw_G (pc' := 1859) (st' := [.int (lg_cmp (xm_l h14 316 0) (Int32.toInt64 v10))]) rfl rfl trivial ?_
      refine xj_if_eq rfl hf (fun hc18 hf => ?_) (fun hc18 hf => ?_)
      · refine xw_G (pc' := 2876) (st' := []) rfl rfl trivial ?_
        refine xw_G (pc' := 2879) (ls' := [some (.ref 0), some (.ref 160), some (.ref 302), some (.ref 316), some (.ref 317), some (.int (c5 + (6 : Int32))), some (.int v4), some (.int v10), none]) (st' := []) rfl rfl (Nat.le_of_ble_eq_true rfl) ?_
        refine xw_G (pc' := 28) (st' := []) rfl rfl trivial ?_
        refine xw_M rfl rfl ?_
        exact ih _ _ ⟨_, _, hS⟩ hf
      · refine xw_G (pc' := 1863) (st' := [.int (0 : Int32)]) rfl rfl trivial ?_
        exact xr_i (inj := xji) (φ := fun h => ∃ ρ δ, xS ρ δ h) rfl rfl rfl rfl hf hQ ⟨_, _, hS⟩
    · refine xw_G (pc' := 2876) (st' := []) rfl rfl trivial ?_
      refine xw_G (pc' := 2879) (ls' := [some (.ref 0), some (.ref 160), some (.ref 302), some (.ref 316), some (.ref 317), some (.int (c5 + (6 : Int32))), some (.int v4), some (.int v10), none]) (st' := []) rfl rfl (Nat.le_of_ble_eq_true rfl) ?_
      refine xw_G (pc' := 28) (st' := []) rfl rfl trivial ?_
      refine xw_M rfl rfl ?_
      exact ih _ _ ⟨_, _, hS⟩ hf
  · refine xw_G (pc' := 1846) (st' := [.int (0 : Int32)]) rfl rfl trivial ?_
    exact xr_i (inj := xji) (φ := fun h => ∃ ρ δ, xS ρ δ h) rfl rfl rfl rfl hf hQ ⟨_, _, hS⟩

theorem tc_L_law_28 {N ρ δ : Nat} {Q : xm_O → xm_H → Prop} {w : Int32 × xm_H} (hQ : (∃ ρ δ, xS ρ δ w.2) → Q (xji w.1) w.2) {rec : Int32 → xm_H → Option (Int32 × xm_H)} (ih : ∀ (c5 : Int32) (h : xm_H), (∃ ρ δ, xS ρ δ h) → rec c5 h = some w → xm_W (xm_Rn xX 60) xM_L_law Q 28 [some (.ref 0), some (.ref 160), some (.ref 302), some (.ref 316), some (.ref 317), some (.int c5), none, none, none] [] h) : ∀ (c5 : Int32) (h : xm_H), xS ρ δ h → f_L_law_c28 N ρ δ rec c5 h = some w → xm_W (xm_Rn xX 60) xM_L_law Q 1867 [some (.ref 0), some (.ref 160), some (.ref 302), some (.ref 316), some (.ref 317), some (.int c5), none, none, none] [] h := by
  intro c5 h hS hf
  unfold f_L_law_c28 at hf
  refine xw_G (pc' := 1868) (st' := [.ref 160]) rfl rfl trivial ?_
  refine xw_G (pc' := 1869) (st' := [.ref 0, .ref 160]) rfl rfl trivial ?_
  refine xw_G (pc' := 1871) (st' := [.int c5, .ref 0, .ref 160]) rfl rfl trivial ?_
  refine xw_G (pc' := 1872) (st' := [.int (1 : Int32), .int c5, .ref 0, .ref 160]) rfl rfl trivial ?_
  refine xw_G (pc' := 1873) (st' := [.int (c5 + (1 : Int32)), .ref 0, .ref 160]) rfl rfl trivial ?_
  refine xg_e hf (fun hg1 hf => ?_)
  refine xg_e hf (fun hg2 hf => ?_)
  refine xa_ld (t := 100) (τ := 0) (v := .int (xm_i h 0 (Int32.toNatClampNeg (c5 + (1 : Int32))))) rfl rfl hg1 rfl hg2 rfl ?_
  refine xw_G (pc' := 1875) (st' := [.ref 316, .int (xm_i h 0 (Int32.toNatClampNeg (c5 + (1 : Int32)))), .ref 160]) rfl rfl trivial ?_
  refine xb_e hf (fun v3 h4 e5 hf => ?_)
  refine xw_S10 (v := some (.int v3)) rfl (Nat.le_of_ble_eq_true rfl) (Nat.le_of_ble_eq_true rfl) (xm_Rn_le (Nat.le_of_ble_eq_true rfl) (t_L_pause  hS e5).1) ?_
  have hS := (t_L_pause  hS e5).2
  show xm_W _ _ _ 1878 _ [.int v3] _
  refine xw_G (pc' := 1880) (ls' := [some (.ref 0), some (.ref 160), some (.ref 302), some (.ref 316), some (.ref 317), some (.int c5), some (.int v3), none, none]) (st' := []) rfl rfl (Nat.le_of_ble_eq_true rfl) ?_
  refine xw_G (pc' := 1881) (st' := [.ref 302]) rfl rfl trivial ?_
  refine xw_G (pc' := 1882) (st' := [.ref 0, .ref 302]) rfl rfl trivial ?_
  refine xw_G (pc' := 1884) (st' := [.int c5, .ref 0, .ref 302]) rfl rfl trivial ?_
  refine xw_G (pc' := 1885) (st' := [.int (1 : Int32), .int c5, .ref 0, .ref 302]) rfl rfl trivial ?_
  refine xw_G (pc' := 1886) (st' := [.int (c5 + (1 : Int32)), .ref 0, .ref 302]) rfl rfl trivial ?_
  refine xg_e hf (fun hg6 hf => ?_)
  refine xg_e hf (fun hg7 hf => ?_)
  refine xa_ld (t := 100) (τ := 0) (v := .int (xm_i h4 0 (Int32.toNatClampNeg (c5 + (1 : Int32))))) rfl rfl hg6 rfl hg7 rfl ?_
  refine xb_e hf (fun v8 h9 e10 hf => ?_)
  refine xw_V (v := some (.int v8)) rfl rfl (xkf (xs_k hS rfl rfl : xm_k h4 302 = (11, 0))) (Nat.le_of_ble_eq_true rfl) (Nat.le_of_ble_eq_true rfl) (xm_Rn_le (Nat.le_of_ble_eq_true rfl) (t_X11_pause  hS e10).1) ?_
  have hS := (t_X11_pause  hS e10).2
  show xm_W _ _ _ 1890 _ [.int v8] _
  refine xw_G (pc' := 1892) (ls' := [some (.ref 0), some (.ref 160), some (.ref 302), some (.ref 316), some (.ref 317), some (.int c5), some (.int v3), some (.int v8), none]) (st' := []) rfl rfl (Nat.le_of_ble_eq_true rfl) ?_
  refine xw_G (pc' := 1893) (st' := [.ref 302]) rfl rfl trivial ?_
  refine xb_e hf (fun v11 h12 e13 hf => ?_)
  refine xw_V (v := some (.int v11)) rfl rfl (xkf (xs_k hS rfl rfl : xm_k h9 302 = (11, 0))) (Nat.le_of_ble_eq_true rfl) (Nat.le_of_ble_eq_true rfl) (xm_Rn_le (Nat.le_of_ble_eq_true rfl) (t_X11_thrown  hS e13).1) ?_
  have hS := (t_X11_thrown  hS e13).2
  show xm_W _ _ _ 1896 _ [.int v11] _
  refine xw_G (pc' := 1898) (st' := [.int v3, .int v11]) rfl rfl trivial ?_
  refine xj_ic_eq rfl hf (fun hc14 hf => ?_) (fun hc14 hf => ?_)
  · refine xw_G (pc' := 1905) (st' := [.int v3]) rfl rfl trivial ?_
    refine xj_if_ne rfl hf (fun hc15 hf => ?_) (fun hc15 hf => ?_)
    · refine xw_G (pc' := 1909) (st' := [.ref 316]) rfl rfl trivial ?_
      refine xw_G (pc' := 1910) (st' := [.int (0 : Int32), .ref 316]) rfl rfl trivial ?_
      refine xa_ld (t := 104) (τ := 4) (v := .long (xm_l h12 316 0)) rfl rfl (xkf (xs_k hS rfl rfl : xm_k h12 316 = (104, 1))) (xkn (xs_k hS rfl rfl : xm_k h12 316 = (104, 1))) (by decide : xin (0 : Int32) 1) rfl ?_
      refine xw_G (pc' := 1913) (st' := [.int v8, .long (xm_l h12 316 0)]) rfl rfl trivial ?_
      refine xw_G (pc' := 1914) (st' := [.long (Int32.toInt64 v8), .long (xm_l h12 316 0)]) rfl rfl trivial ?_
      refine xw_G (pc' := 1915) (st' := [.int (lg_cmp (xm_l h12 316 0) (Int32.toInt64 v8))]) rfl rfl trivial ?_
      refine xj_if_eq rfl hf (fun hc16 hf => ?_) (fun hc16 hf => ?_)
      · refine xw_G (pc' := 2876) (st' := []) rfl rfl trivial ?_
        refine xw_G (pc' := 2879) (ls' := [some (.ref 0), some (.ref 160), some (.ref 302), some (.ref 316), some (.ref 317), some (.int (c5 + (6 : Int32))), some (.int v3), some (.int v8), none]) (st' := []) rfl rfl (Nat.le_of_ble_eq_true rfl) ?_
        refine xw_G (pc' := 28) (st' := []) rfl rfl trivial ?_
        refine xw_M rfl rfl ?_
        exact ih _ _ ⟨_, _, hS⟩ hf
      · refine xw_G (pc' := 1919) (st' := [.int (0 : Int32)]) rfl rfl trivial ?_
        exact xr_i (inj := xji) (φ := fun h => ∃ ρ δ, xS ρ δ h) rfl rfl rfl rfl hf hQ ⟨_, _, hS⟩
    · refine xw_G (pc' := 2876) (st' := []) rfl rfl trivial ?_
      refine xw_G (pc' := 2879) (ls' := [some (.ref 0), some (.ref 160), some (.ref 302), some (.ref 316), some (.ref 317), some (.int (c5 + (6 : Int32))), some (.int v3), some (.int v8), none]) (st' := []) rfl rfl (Nat.le_of_ble_eq_true rfl) ?_
      refine xw_G (pc' := 28) (st' := []) rfl rfl trivial ?_
      refine xw_M rfl rfl ?_
      exact ih _ _ ⟨_, _, hS⟩ hf
  · refine xw_G (pc' := 1902) (st' := [.int (0 : Int32)]) rfl rfl trivial ?_
    exact xr_i (inj := xji) (φ := fun h => ∃ ρ δ, xS ρ δ h) rfl rfl rfl rfl hf hQ ⟨_, _, hS⟩

theorem tc_L_law_29 {N ρ δ : Nat} {Q : xm_O → xm_H → Prop} {w : Int32 × xm_H} (hQ : (∃ ρ δ, xS ρ δ w.2) → Q (xji w.1) w.2) {rec : Int32 → xm_H → Option (Int32 × xm_H)} (ih : ∀ (c5 : Int32) (h : xm_H), (∃ ρ δ, xS ρ δ h) → rec c5 h = some w → xm_W (xm_Rn xX 60) xM_L_law Q 28 [some (.ref 0), some (.ref 160), some (.ref 302), some (.ref 316), some (.ref 317), some (.int c5), none, none, none] [] h) : ∀ (c5 : Int32) (h : xm_H), xS ρ δ h → f_L_law_c29 N ρ δ rec c5 h = some w → xm_W (xm_Rn xX 60) xM_L_law Q 1923 [some (.ref 0), some (.ref 160), some (.ref 302), some (.ref 316), some (.ref 317), some (.int c5), none, none, none] [] h := by
  intro c5 h hS hf
  unfold f_L_law_c29 at hf
  refine xw_G (pc' := 1924) (st' := [.ref 160]) rfl rfl trivial ?_
  refine xw_G (pc' := 1925) (st' := [.ref 0, .ref 160]) rfl rfl trivial ?_
  refine xw_G (pc' := 1927) (st' := [.int c5, .ref 0, .ref 160]) rfl rfl trivial ?_
  refine xw_G (pc' := 1928) (st' := [.int (1 : Int32), .int c5, .ref 0, .ref 160]) rfl rfl trivial ?_
  refine xw_G (pc' := 1929) (st' := [.int (c5 + (1 : Int32)), .ref 0, .ref 160]) rfl rfl trivial ?_
  refine xg_e hf (fun hg1 hf => ?_)
  refine xg_e hf (fun hg2 hf => ?_)
  refine xa_ld (t := 100) (τ := 0) (v := .int (xm_i h 0 (Int32.toNatClampNeg (c5 + (1 : Int32))))) rfl rfl hg1 rfl hg2 rfl ?_
  refine xw_G (pc' := 1931) (st' := [.ref 316, .int (xm_i h 0 (Int32.toNatClampNeg (c5 + (1 : Int32)))), .ref 160]) rfl rfl trivial ?_
  refine xb_e hf (fun v3 h4 e5 hf => ?_)
  refine xw_S10 (v := some (.int v3)) rfl (Nat.le_of_ble_eq_true rfl) (Nat.le_of_ble_eq_true rfl) (xm_Rn_le (Nat.le_of_ble_eq_true rfl) (t_L_resume  hS e5).1) ?_
  have hS := (t_L_resume  hS e5).2
  show xm_W _ _ _ 1934 _ [.int v3] _
  refine xw_G (pc' := 1936) (ls' := [some (.ref 0), some (.ref 160), some (.ref 302), some (.ref 316), some (.ref 317), some (.int c5), some (.int v3), none, none]) (st' := []) rfl rfl (Nat.le_of_ble_eq_true rfl) ?_
  refine xw_G (pc' := 1937) (st' := [.ref 302]) rfl rfl trivial ?_
  refine xw_G (pc' := 1938) (st' := [.ref 0, .ref 302]) rfl rfl trivial ?_
  refine xw_G (pc' := 1940) (st' := [.int c5, .ref 0, .ref 302]) rfl rfl trivial ?_
  refine xw_G (pc' := 1941) (st' := [.int (1 : Int32), .int c5, .ref 0, .ref 302]) rfl rfl trivial ?_
  refine xw_G (pc' := 1942) (st' := [.int (c5 + (1 : Int32)), .ref 0, .ref 302]) rfl rfl trivial ?_
  refine xg_e hf (fun hg6 hf => ?_)
  refine xg_e hf (fun hg7 hf => ?_)
  refine xa_ld (t := 100) (τ := 0) (v := .int (xm_i h4 0 (Int32.toNatClampNeg (c5 + (1 : Int32))))) rfl rfl hg6 rfl hg7 rfl ?_
  refine xb_e hf (fun v8 h9 e10 hf => ?_)
  refine xw_V (v := some (.int v8)) rfl rfl (xkf (xs_k hS rfl rfl : xm_k h4 302 = (11, 0))) (Nat.le_of_ble_eq_true rfl) (Nat.le_of_ble_eq_true rfl) (xm_Rn_le (Nat.le_of_ble_eq_true rfl) (t_X11_resume  hS e10).1) ?_
  have hS := (t_X11_resume  hS e10).2
  show xm_W _ _ _ 1946 _ [.int v8] _
  refine xw_G (pc' := 1948) (ls' := [some (.ref 0), some (.ref 160), some (.ref 302), some (.ref 316), some (.ref 317), some (.int c5), some (.int v3), some (.int v8), none]) (st' := []) rfl rfl (Nat.le_of_ble_eq_true rfl) ?_
  refine xw_G (pc' := 1949) (st' := [.ref 302]) rfl rfl trivial ?_
  refine xb_e hf (fun v11 h12 e13 hf => ?_)
  refine xw_V (v := some (.int v11)) rfl rfl (xkf (xs_k hS rfl rfl : xm_k h9 302 = (11, 0))) (Nat.le_of_ble_eq_true rfl) (Nat.le_of_ble_eq_true rfl) (xm_Rn_le (Nat.le_of_ble_eq_true rfl) (t_X11_thrown  hS e13).1) ?_
  have hS := (t_X11_thrown  hS e13).2
  show xm_W _ _ _ 1952 _ [.int v11] _
  refine xw_G (pc' := 1954) (st' := [.int v3, .int v11]) rfl rfl trivial ?_
  refine xj_ic_eq rfl hf (fun hc14 hf => ?_) (fun hc14 hf => ?_)
  · refine xw_G (pc' := 1961) (st' := [.int v3]) rfl rfl trivial ?_
    refine xj_if_ne rfl hf (fun hc15 hf => ?_) (fun hc15 hf => ?_)
    · refine xw_G (pc' := 1965) (st' := [.ref 316]) rfl rfl trivial ?_
      refine xw_G (pc' := 1966) (st' := [.int (0 : Int32), .ref 316]) rfl rfl trivial ?_
      refine xa_ld (t := 104) (τ := 4) (v := .long (xm_l h12 316 0)) rfl rfl (xkf (xs_k hS rfl rfl : xm_k h12 316 = (104, 1))) (xkn (xs_k hS rfl rfl : xm_k h12 316 = (104, 1))) (by decide : xin (0 : Int32) 1) rfl ?_
      refine xw_G (pc' := 1969) (st' := [.int v8, .long (xm_l h12 316 0)]) rfl rfl trivial ?_
      refine xw_G (pc' := 1970) (st' := [.long (Int32.toInt64 v8), .long (xm_l h12 316 0)]) rfl rfl trivial ?_
      refine xw_G (pc' := 1971) (st' := [.int (lg_cmp (xm_l h12 316 0) (Int32.toInt64 v8))]) rfl rfl trivial ?_
      refine xj_if_eq rfl hf (fun hc16 hf => ?_) (fun hc16 hf => ?_)
      · refine xw_G (pc' := 2876) (st' := []) rfl rfl trivial ?_
        refine xw_G (pc' := 2879) (ls' := [some (.ref 0), some (.ref 160), some (.ref 302), some (.ref 316), some (.ref 317), some (.int (c5 + (6 : Int32))), some (.int v3), some (.int v8), none]) (st' := []) rfl rfl (Nat.le_of_ble_eq_true rfl) ?_
        refine xw_G (pc' := 28) (st' := []) rfl rfl trivial ?_
        refine xw_M rfl rfl ?_
        exact ih _ _ ⟨_, _, hS⟩ hf
      · refine xw_G (pc' := 1975) (st' := [.int (0 : Int32)]) rfl rfl trivial ?_
        exact xr_i (inj := xji) (φ := fun h => ∃ ρ δ, xS ρ δ h) rfl rfl rfl rfl hf hQ ⟨_, _, hS⟩
    · refine xw_G (pc' := 2876) (st' := []) rfl rfl trivial ?_
      refine xw_G (pc' := 2879) (ls' := [some (.ref 0), some (.ref 160), some (.ref 302), some (.ref 316), some (.ref 317), some (.int (c5 + (6 : Int32))), some (.int v3), some (.int v8), none]) (st' := []) rfl rfl (Nat.le_of_ble_eq_true rfl) ?_
      refine xw_G (pc' := 28) (st' := []) rfl rfl trivial ?_
      refine xw_M rfl rfl ?_
      exact ih _ _ ⟨_, _, hS⟩ hf
  · refine xw_G (pc' := 1958) (st' := [.int (0 : Int32)]) rfl rfl trivial ?_
    exact xr_i (inj := xji) (φ := fun h => ∃ ρ δ, xS ρ δ h) rfl rfl rfl rfl hf hQ ⟨_, _, hS⟩

theorem tc_L_law_30 {N ρ δ : Nat} {Q : xm_O → xm_H → Prop} {w : Int32 × xm_H} (hQ : (∃ ρ δ, xS ρ δ w.2) → Q (xji w.1) w.2) {rec : Int32 → xm_H → Option (Int32 × xm_H)} (ih : ∀ (c5 : Int32) (h : xm_H), (∃ ρ δ, xS ρ δ h) → rec c5 h = some w → xm_W (xm_Rn xX 60) xM_L_law Q 28 [some (.ref 0), some (.ref 160), some (.ref 302), some (.ref 316), some (.ref 317), some (.int c5), none, none, none] [] h) : ∀ (c5 : Int32) (h : xm_H), xS ρ δ h → f_L_law_c30 N ρ δ rec c5 h = some w → xm_W (xm_Rn xX 60) xM_L_law Q 1979 [some (.ref 0), some (.ref 160), some (.ref 302), some (.ref 316), some (.ref 317), some (.int c5), none, none, none] [] h := by
  intro c5 h hS hf
  unfold f_L_law_c30 at hf
  refine xw_G (pc' := 1980) (st' := [.ref 160]) rfl rfl trivial ?_
  refine xw_G (pc' := 1981) (st' := [.ref 0, .ref 160]) rfl rfl trivial ?_
  refine xw_G (pc' := 1983) (st' := [.int c5, .ref 0, .ref 160]) rfl rfl trivial ?_
  refine xw_G (pc' := 1984) (st' := [.int (1 : Int32), .int c5, .ref 0, .ref 160]) rfl rfl trivial ?_
  refine xw_G (pc' := 1985) (st' := [.int (c5 + (1 : Int32)), .ref 0, .ref 160]) rfl rfl trivial ?_
  refine xg_e hf (fun hg1 hf => ?_)
  refine xg_e hf (fun hg2 hf => ?_)
  refine xa_ld (t := 100) (τ := 0) (v := .int (xm_i h 0 (Int32.toNatClampNeg (c5 + (1 : Int32))))) rfl rfl hg1 rfl hg2 rfl ?_
  refine xw_G (pc' := 1987) (st' := [.ref 0, .int (xm_i h 0 (Int32.toNatClampNeg (c5 + (1 : Int32)))), .ref 160]) rfl rfl trivial ?_
  refine xw_G (pc' := 1989) (st' := [.int c5, .ref 0, .int (xm_i h 0 (Int32.toNatClampNeg (c5 + (1 : Int32)))), .ref 160]) rfl rfl trivial ?_
  refine xw_G (pc' := 1990) (st' := [.int (2 : Int32), .int c5, .ref 0, .int (xm_i h 0 (Int32.toNatClampNeg (c5 + (1 : Int32)))), .ref 160]) rfl rfl trivial ?_
  refine xw_G (pc' := 1991) (st' := [.int (c5 + (2 : Int32)), .ref 0, .int (xm_i h 0 (Int32.toNatClampNeg (c5 + (1 : Int32)))), .ref 160]) rfl rfl trivial ?_
  refine xg_e hf (fun hg3 hf => ?_)
  refine xa_ld (t := 100) (τ := 0) (v := .int (xm_i h 0 (Int32.toNatClampNeg (c5 + (2 : Int32))))) rfl rfl hg1 rfl hg3 rfl ?_
  refine xw_G (pc' := 1993) (st' := [.ref 316, .int (xm_i h 0 (Int32.toNatClampNeg (c5 + (2 : Int32)))), .int (xm_i h 0 (Int32.toNatClampNeg (c5 + (1 : Int32)))), .ref 160]) rfl rfl trivial ?_
  refine xb_e hf (fun v4 h5 e6 hf => ?_)
  refine xw_S10 (v := some (.int v4)) rfl (Nat.le_of_ble_eq_true rfl) (Nat.le_of_ble_eq_true rfl) (xm_Rn_le (Nat.le_of_ble_eq_true rfl) (t_L_setBid  hS e6).1) ?_
  have hS := (t_L_setBid  hS e6).2
  show xm_W _ _ _ 1996 _ [.int v4] _
  refine xw_G (pc' := 1998) (ls' := [some (.ref 0), some (.ref 160), some (.ref 302), some (.ref 316), some (.ref 317), some (.int c5), some (.int v4), none, none]) (st' := []) rfl rfl (Nat.le_of_ble_eq_true rfl) ?_
  refine xw_G (pc' := 1999) (st' := [.ref 302]) rfl rfl trivial ?_
  refine xw_G (pc' := 2000) (st' := [.ref 0, .ref 302]) rfl rfl trivial ?_
  refine xw_G (pc' := 2002) (st' := [.int c5, .ref 0, .ref 302]) rfl rfl trivial ?_
  refine xw_G (pc' := 2003) (st' := [.int (1 : Int32), .int c5, .ref 0, .ref 302]) rfl rfl trivial ?_
  refine xw_G (pc' := 2004) (st' := [.int (c5 + (1 : Int32)), .ref 0, .ref 302]) rfl rfl trivial ?_
  refine xg_e hf (fun hg7 hf => ?_)
  refine xg_e hf (fun hg8 hf => ?_)
  refine xa_ld (t := 100) (τ := 0) (v := .int (xm_i h5 0 (Int32.toNatClampNeg (c5 + (1 : Int32))))) rfl rfl hg7 rfl hg8 rfl ?_
  refine xw_G (pc' := 2006) (st' := [.ref 0, .int (xm_i h5 0 (Int32.toNatClampNeg (c5 + (1 : Int32)))), .ref 302]) rfl rfl trivial ?_
  refine xw_G (pc' := 2008) (st' := [.int c5, .ref 0, .int (xm_i h5 0 (Int32.toNatClampNeg (c5 + (1 : Int32)))), .ref 302]) rfl rfl trivial ?_
  refine xw_G (pc' := 2009) (st' := [.int (2 : Int32), .int c5, .ref 0, .int (xm_i h5 0 (Int32.toNatClampNeg (c5 + (1 : Int32)))), .ref 302]) rfl rfl trivial ?_
  refine xw_G (pc' := 2010) (st' := [.int (c5 + (2 : Int32)), .ref 0, .int (xm_i h5 0 (Int32.toNatClampNeg (c5 + (1 : Int32)))), .ref 302]) rfl rfl trivial ?_
  refine xg_e hf (fun hg9 hf => ?_)
  refine xa_ld (t := 100) (τ := 0) (v := .int (xm_i h5 0 (Int32.toNatClampNeg (c5 + (2 : Int32))))) rfl rfl hg7 rfl hg9 rfl ?_
  refine xb_e hf (fun v10 h11 e12 hf => ?_)
  refine xw_V (v := some (.int v10)) rfl rfl (xkf (xs_k hS rfl rfl : xm_k h5 302 = (11, 0))) (Nat.le_of_ble_eq_true rfl) (Nat.le_of_ble_eq_true rfl) (xm_Rn_le (Nat.le_of_ble_eq_true rfl) (t_X11_setBid  hS e12).1) ?_
  have hS := (t_X11_setBid  hS e12).2
  show xm_W _ _ _ 2014 _ [.int v10] _
  refine xw_G (pc' := 2016) (ls' := [some (.ref 0), some (.ref 160), some (.ref 302), some (.ref 316), some (.ref 317), some (.int c5), some (.int v4), some (.int v10), none]) (st' := []) rfl rfl (Nat.le_of_ble_eq_true rfl) ?_
  refine xw_G (pc' := 2017) (st' := [.ref 302]) rfl rfl trivial ?_
  refine xb_e hf (fun v13 h14 e15 hf => ?_)
  refine xw_V (v := some (.int v13)) rfl rfl (xkf (xs_k hS rfl rfl : xm_k h11 302 = (11, 0))) (Nat.le_of_ble_eq_true rfl) (Nat.le_of_ble_eq_true rfl) (xm_Rn_le (Nat.le_of_ble_eq_true rfl) (t_X11_thrown  hS e15).1) ?_
  have hS := (t_X11_thrown  hS e15).2
  show xm_W _ _ _ 2020 _ [.int v13] _
  refine xw_G (pc' := 2022) (st' := [.int v4, .int v13]) rfl rfl trivial ?_
  refine xj_ic_eq rfl hf (fun hc16 hf => ?_) (fun hc16 hf => ?_)
  · refine xw_G (pc' := 2029) (st' := [.int v4]) rfl rfl trivial ?_
    refine xj_if_ne rfl hf (fun hc17 hf => ?_) (fun hc17 hf => ?_)
    · refine xw_G (pc' := 2033) (st' := [.ref 316]) rfl rfl trivial ?_
      refine xw_G (pc' := 2034) (st' := [.int (0 : Int32), .ref 316]) rfl rfl trivial ?_
      refine xa_ld (t := 104) (τ := 4) (v := .long (xm_l h14 316 0)) rfl rfl (xkf (xs_k hS rfl rfl : xm_k h14 316 = (104, 1))) (xkn (xs_k hS rfl rfl : xm_k h14 316 = (104, 1))) (by decide : xin (0 : Int32) 1) rfl ?_
      refine xw_G (pc' := 2037) (st' := [.int v10, .long (xm_l h14 316 0)]) rfl rfl trivial ?_
      refine xw_G (pc' := 2038) (st' := [.long (Int32.toInt64 v10), .long (xm_l h14 316 0)]) rfl rfl trivial ?_
      refine xw_G (pc' := 2039) (st' := [.int (lg_cmp (xm_l h14 316 0) (Int32.toInt64 v10))]) rfl rfl trivial ?_
      refine xj_if_eq rfl hf (fun hc18 hf => ?_) (fun hc18 hf => ?_)
      · refine xw_G (pc' := 2876) (st' := []) rfl rfl trivial ?_
        refine xw_G (pc' := 2879) (ls' := [some (.ref 0), some (.ref 160), some (.ref 302), some (.ref 316), some (.ref 317), some (.int (c5 + (6 : Int32))), some (.int v4), some (.int v10), none]) (st' := []) rfl rfl (Nat.le_of_ble_eq_true rfl) ?_
        refine xw_G (pc' := 28) (st' := []) rfl rfl trivial ?_
        refine xw_M rfl rfl ?_
        exact ih _ _ ⟨_, _, hS⟩ hf
      · refine xw_G (pc' := 2043) (st' := [.int (0 : Int32)]) rfl rfl trivial ?_
        exact xr_i (inj := xji) (φ := fun h => ∃ ρ δ, xS ρ δ h) rfl rfl rfl rfl hf hQ ⟨_, _, hS⟩
    · refine xw_G (pc' := 2876) (st' := []) rfl rfl trivial ?_
      refine xw_G (pc' := 2879) (ls' := [some (.ref 0), some (.ref 160), some (.ref 302), some (.ref 316), some (.ref 317), some (.int (c5 + (6 : Int32))), some (.int v4), some (.int v10), none]) (st' := []) rfl rfl (Nat.le_of_ble_eq_true rfl) ?_
      refine xw_G (pc' := 28) (st' := []) rfl rfl trivial ?_
      refine xw_M rfl rfl ?_
      exact ih _ _ ⟨_, _, hS⟩ hf
  · refine xw_G (pc' := 2026) (st' := [.int (0 : Int32)]) rfl rfl trivial ?_
    exact xr_i (inj := xji) (φ := fun h => ∃ ρ δ, xS ρ δ h) rfl rfl rfl rfl hf hQ ⟨_, _, hS⟩

theorem tc_L_law_31 {N ρ δ : Nat} {Q : xm_O → xm_H → Prop} {w : Int32 × xm_H} (hQ : (∃ ρ δ, xS ρ δ w.2) → Q (xji w.1) w.2) {rec : Int32 → xm_H → Option (Int32 × xm_H)} (ih : ∀ (c5 : Int32) (h : xm_H), (∃ ρ δ, xS ρ δ h) → rec c5 h = some w → xm_W (xm_Rn xX 60) xM_L_law Q 28 [some (.ref 0), some (.ref 160), some (.ref 302), some (.ref 316), some (.ref 317), some (.int c5), none, none, none] [] h) : ∀ (c5 : Int32) (h : xm_H), xS ρ δ h → f_L_law_c31 N ρ δ rec c5 h = some w → xm_W (xm_Rn xX 60) xM_L_law Q 2047 [some (.ref 0), some (.ref 160), some (.ref 302), some (.ref 316), some (.ref 317), some (.int c5), none, none, none] [] h := by
  intro c5 h hS hf
  unfold f_L_law_c31 at hf
  refine xw_G (pc' := 2048) (st' := [.ref 160]) rfl rfl trivial ?_
  refine xw_G (pc' := 2049) (st' := [.ref 0, .ref 160]) rfl rfl trivial ?_
  refine xw_G (pc' := 2051) (st' := [.int c5, .ref 0, .ref 160]) rfl rfl trivial ?_
  refine xw_G (pc' := 2052) (st' := [.int (1 : Int32), .int c5, .ref 0, .ref 160]) rfl rfl trivial ?_
  refine xw_G (pc' := 2053) (st' := [.int (c5 + (1 : Int32)), .ref 0, .ref 160]) rfl rfl trivial ?_
  refine xg_e hf (fun hg1 hf => ?_)
  refine xg_e hf (fun hg2 hf => ?_)
  refine xa_ld (t := 100) (τ := 0) (v := .int (xm_i h 0 (Int32.toNatClampNeg (c5 + (1 : Int32))))) rfl rfl hg1 rfl hg2 rfl ?_
  refine xw_G (pc' := 2055) (st' := [.ref 0, .int (xm_i h 0 (Int32.toNatClampNeg (c5 + (1 : Int32)))), .ref 160]) rfl rfl trivial ?_
  refine xw_G (pc' := 2057) (st' := [.int c5, .ref 0, .int (xm_i h 0 (Int32.toNatClampNeg (c5 + (1 : Int32)))), .ref 160]) rfl rfl trivial ?_
  refine xw_G (pc' := 2058) (st' := [.int (2 : Int32), .int c5, .ref 0, .int (xm_i h 0 (Int32.toNatClampNeg (c5 + (1 : Int32)))), .ref 160]) rfl rfl trivial ?_
  refine xw_G (pc' := 2059) (st' := [.int (c5 + (2 : Int32)), .ref 0, .int (xm_i h 0 (Int32.toNatClampNeg (c5 + (1 : Int32)))), .ref 160]) rfl rfl trivial ?_
  refine xg_e hf (fun hg3 hf => ?_)
  refine xa_ld (t := 100) (τ := 0) (v := .int (xm_i h 0 (Int32.toNatClampNeg (c5 + (2 : Int32))))) rfl rfl hg1 rfl hg3 rfl ?_
  refine xw_G (pc' := 2061) (st' := [.ref 316, .int (xm_i h 0 (Int32.toNatClampNeg (c5 + (2 : Int32)))), .int (xm_i h 0 (Int32.toNatClampNeg (c5 + (1 : Int32)))), .ref 160]) rfl rfl trivial ?_
  refine xb_e hf (fun v4 h5 e6 hf => ?_)
  refine xw_S10 (v := some (.int v4)) rfl (Nat.le_of_ble_eq_true rfl) (Nat.le_of_ble_eq_true rfl) (xm_Rn_le (Nat.le_of_ble_eq_true rfl) (t_L_setBudget  hS e6).1) ?_
  have hS := (t_L_setBudget  hS e6).2
  show xm_W _ _ _ 2064 _ [.int v4] _
  refine xw_G (pc' := 2066) (ls' := [some (.ref 0), some (.ref 160), some (.ref 302), some (.ref 316), some (.ref 317), some (.int c5), some (.int v4), none, none]) (st' := []) rfl rfl (Nat.le_of_ble_eq_true rfl) ?_
  refine xw_G (pc' := 2067) (st' := [.ref 302]) rfl rfl trivial ?_
  refine xw_G (pc' := 2068) (st' := [.ref 0, .ref 302]) rfl rfl trivial ?_
  refine xw_G (pc' := 2070) (st' := [.int c5, .ref 0, .ref 302]) rfl rfl trivial ?_
  refine xw_G (pc' := 2071) (st' := [.int (1 : Int32), .int c5, .ref 0, .ref 302]) rfl rfl trivial ?_
  refine xw_G (pc' := 2072) (st' := [.int (c5 + (1 : Int32)), .ref 0, .ref 302]) rfl rfl trivial ?_
  refine xg_e hf (fun hg7 hf => ?_)
  refine xg_e hf (fun hg8 hf => ?_)
  refine xa_ld (t := 100) (τ := 0) (v := .int (xm_i h5 0 (Int32.toNatClampNeg (c5 + (1 : Int32))))) rfl rfl hg7 rfl hg8 rfl ?_
  refine xw_G (pc' := 2074) (st' := [.ref 0, .int (xm_i h5 0 (Int32.toNatClampNeg (c5 + (1 : Int32)))), .ref 302]) rfl rfl trivial ?_
  refine xw_G (pc' := 2076) (st' := [.int c5, .ref 0, .int (xm_i h5 0 (Int32.toNatClampNeg (c5 + (1 : Int32)))), .ref 302]) rfl rfl trivial ?_
  refine xw_G (pc' := 2077) (st' := [.int (2 : Int32), .int c5, .ref 0, .int (xm_i h5 0 (Int32.toNatClampNeg (c5 + (1 : Int32)))), .ref 302]) rfl rfl trivial ?_
  refine xw_G (pc' := 2078) (st' := [.int (c5 + (2 : Int32)), .ref 0, .int (xm_i h5 0 (Int32.toNatClampNeg (c5 + (1 : Int32)))), .ref 302]) rfl rfl trivial ?_
  refine xg_e hf (fun hg9 hf => ?_)
  refine xa_ld (t := 100) (τ := 0) (v := .int (xm_i h5 0 (Int32.toNatClampNeg (c5 + (2 : Int32))))) rfl rfl hg7 rfl hg9 rfl ?_
  refine xb_e hf (fun v10 h11 e12 hf => ?_)
  refine xw_V (v := some (.int v10)) rfl rfl (xkf (xs_k hS rfl rfl : xm_k h5 302 = (11, 0))) (Nat.le_of_ble_eq_true rfl) (Nat.le_of_ble_eq_true rfl) (xm_Rn_le (Nat.le_of_ble_eq_true rfl) (t_X11_setBudget  hS e12).1) ?_
  have hS := (t_X11_setBudget  hS e12).2
  show xm_W _ _ _ 2082 _ [.int v10] _
  refine xw_G (pc' := 2084) (ls' := [some (.ref 0), some (.ref 160), some (.ref 302), some (.ref 316), some (.ref 317), some (.int c5), some (.int v4), some (.int v10), none]) (st' := []) rfl rfl (Nat.le_of_ble_eq_true rfl) ?_
  refine xw_G (pc' := 2085) (st' := [.ref 302]) rfl rfl trivial ?_
  refine xb_e hf (fun v13 h14 e15 hf => ?_)
  refine xw_V (v := some (.int v13)) rfl rfl (xkf (xs_k hS rfl rfl : xm_k h11 302 = (11, 0))) (Nat.le_of_ble_eq_true rfl) (Nat.le_of_ble_eq_true rfl) (xm_Rn_le (Nat.le_of_ble_eq_true rfl) (t_X11_thrown  hS e15).1) ?_
  have hS := (t_X11_thrown  hS e15).2
  show xm_W _ _ _ 2088 _ [.int v13] _
  refine xw_G (pc' := 2090) (st' := [.int v4, .int v13]) rfl rfl trivial ?_
  refine xj_ic_eq rfl hf (fun hc16 hf => ?_) (fun hc16 hf => ?_)
  · refine xw_G (pc' := 2097) (st' := [.int v4]) rfl rfl trivial ?_
    refine xj_if_ne rfl hf (fun hc17 hf => ?_) (fun hc17 hf => ?_)
    · refine xw_G (pc' := 2101) (st' := [.ref 316]) rfl rfl trivial ?_
      refine xw_G (pc' := 2102) (st' := [.int (0 : Int32), .ref 316]) rfl rfl trivial ?_
      refine xa_ld (t := 104) (τ := 4) (v := .long (xm_l h14 316 0)) rfl rfl (xkf (xs_k hS rfl rfl : xm_k h14 316 = (104, 1))) (xkn (xs_k hS rfl rfl : xm_k h14 316 = (104, 1))) (by decide : xin (0 : Int32) 1) rfl ?_
      refine xw_G (pc' := 2105) (st' := [.int v10, .long (xm_l h14 316 0)]) rfl rfl trivial ?_
      refine xw_G (pc' := 2106) (st' := [.long (Int32.toInt64 v10), .long (xm_l h14 316 0)]) rfl rfl trivial ?_
      refine xw_G (pc' := 2107) (st' := [.int (lg_cmp (xm_l h14 316 0) (Int32.toInt64 v10))]) rfl rfl trivial ?_
      refine xj_if_eq rfl hf (fun hc18 hf => ?_) (fun hc18 hf => ?_)
      · refine xw_G (pc' := 2876) (st' := []) rfl rfl trivial ?_
        refine xw_G (pc' := 2879) (ls' := [some (.ref 0), some (.ref 160), some (.ref 302), some (.ref 316), some (.ref 317), some (.int (c5 + (6 : Int32))), some (.int v4), some (.int v10), none]) (st' := []) rfl rfl (Nat.le_of_ble_eq_true rfl) ?_
        refine xw_G (pc' := 28) (st' := []) rfl rfl trivial ?_
        refine xw_M rfl rfl ?_
        exact ih _ _ ⟨_, _, hS⟩ hf
      · refine xw_G (pc' := 2111) (st' := [.int (0 : Int32)]) rfl rfl trivial ?_
        exact xr_i (inj := xji) (φ := fun h => ∃ ρ δ, xS ρ δ h) rfl rfl rfl rfl hf hQ ⟨_, _, hS⟩
    · refine xw_G (pc' := 2876) (st' := []) rfl rfl trivial ?_
      refine xw_G (pc' := 2879) (ls' := [some (.ref 0), some (.ref 160), some (.ref 302), some (.ref 316), some (.ref 317), some (.int (c5 + (6 : Int32))), some (.int v4), some (.int v10), none]) (st' := []) rfl rfl (Nat.le_of_ble_eq_true rfl) ?_
      refine xw_G (pc' := 28) (st' := []) rfl rfl trivial ?_
      refine xw_M rfl rfl ?_
      exact ih _ _ ⟨_, _, hS⟩ hf
  · refine xw_G (pc' := 2094) (st' := [.int (0 : Int32)]) rfl rfl trivial ?_
    exact xr_i (inj := xji) (φ := fun h => ∃ ρ δ, xS ρ δ h) rfl rfl rfl rfl hf hQ ⟨_, _, hS⟩

theorem tc_L_law_32 {N ρ δ : Nat} {Q : xm_O → xm_H → Prop} {w : Int32 × xm_H} (hQ : (∃ ρ δ, xS ρ δ w.2) → Q (xji w.1) w.2) {rec : Int32 → xm_H → Option (Int32 × xm_H)} (ih : ∀ (c5 : Int32) (h : xm_H), (∃ ρ δ, xS ρ δ h) → rec c5 h = some w → xm_W (xm_Rn xX 60) xM_L_law Q 28 [some (.ref 0), some (.ref 160), some (.ref 302), some (.ref 316), some (.ref 317), some (.int c5), none, none, none] [] h) : ∀ (c5 : Int32) (h : xm_H), xS ρ δ h → f_L_law_c32 N ρ δ rec c5 h = some w → xm_W (xm_Rn xX 60) xM_L_law Q 2115 [some (.ref 0), some (.ref 160), some (.ref 302), some (.ref 316), some (.ref 317), some (.int c5), none, none, none] [] h := by
  intro c5 h hS hf
  unfold f_L_law_c32 at hf
  refine xw_G (pc' := 2116) (st' := [.ref 160]) rfl rfl trivial ?_
  refine xw_G (pc' := 2117) (st' := [.ref 0, .ref 160]) rfl rfl trivial ?_
  refine xw_G (pc' := 2119) (st' := [.int c5, .ref 0, .ref 160]) rfl rfl trivial ?_
  refine xw_G (pc' := 2120) (st' := [.int (1 : Int32), .int c5, .ref 0, .ref 160]) rfl rfl trivial ?_
  refine xw_G (pc' := 2121) (st' := [.int (c5 + (1 : Int32)), .ref 0, .ref 160]) rfl rfl trivial ?_
  refine xg_e hf (fun hg1 hf => ?_)
  refine xg_e hf (fun hg2 hf => ?_)
  refine xa_ld (t := 100) (τ := 0) (v := .int (xm_i h 0 (Int32.toNatClampNeg (c5 + (1 : Int32))))) rfl rfl hg1 rfl hg2 rfl ?_
  refine xw_G (pc' := 2123) (st' := [.ref 0, .int (xm_i h 0 (Int32.toNatClampNeg (c5 + (1 : Int32)))), .ref 160]) rfl rfl trivial ?_
  refine xw_G (pc' := 2125) (st' := [.int c5, .ref 0, .int (xm_i h 0 (Int32.toNatClampNeg (c5 + (1 : Int32)))), .ref 160]) rfl rfl trivial ?_
  refine xw_G (pc' := 2126) (st' := [.int (2 : Int32), .int c5, .ref 0, .int (xm_i h 0 (Int32.toNatClampNeg (c5 + (1 : Int32)))), .ref 160]) rfl rfl trivial ?_
  refine xw_G (pc' := 2127) (st' := [.int (c5 + (2 : Int32)), .ref 0, .int (xm_i h 0 (Int32.toNatClampNeg (c5 + (1 : Int32)))), .ref 160]) rfl rfl trivial ?_
  refine xg_e hf (fun hg3 hf => ?_)
  refine xa_ld (t := 100) (τ := 0) (v := .int (xm_i h 0 (Int32.toNatClampNeg (c5 + (2 : Int32))))) rfl rfl hg1 rfl hg3 rfl ?_
  refine xw_G (pc' := 2129) (st' := [.ref 316, .int (xm_i h 0 (Int32.toNatClampNeg (c5 + (2 : Int32)))), .int (xm_i h 0 (Int32.toNatClampNeg (c5 + (1 : Int32)))), .ref 160]) rfl rfl trivial ?_
  refine xb_e hf (fun v4 h5 e6 hf => ?_)
  refine xw_S10 (v := some (.int v4)) rfl (Nat.le_of_ble_eq_true rfl) (Nat.le_of_ble_eq_true rfl) (xm_Rn_le (Nat.le_of_ble_eq_true rfl) (t_L_setMode  hS e6).1) ?_
  have hS := (t_L_setMode  hS e6).2
  show xm_W _ _ _ 2132 _ [.int v4] _
  refine xw_G (pc' := 2134) (ls' := [some (.ref 0), some (.ref 160), some (.ref 302), some (.ref 316), some (.ref 317), some (.int c5), some (.int v4), none, none]) (st' := []) rfl rfl (Nat.le_of_ble_eq_true rfl) ?_
  refine xw_G (pc' := 2135) (st' := [.ref 302]) rfl rfl trivial ?_
  refine xw_G (pc' := 2136) (st' := [.ref 0, .ref 302]) rfl rfl trivial ?_
  refine xw_G (pc' := 2138) (st' := [.int c5, .ref 0, .ref 302]) rfl rfl trivial ?_
  refine xw_G (pc' := 2139) (st' := [.int (1 : Int32), .int c5, .ref 0, .ref 302]) rfl rfl trivial ?_
  refine xw_G (pc' := 2140) (st' := [.int (c5 + (1 : Int32)), .ref 0, .ref 302]) rfl rfl trivial ?_
  refine xg_e hf (fun hg7 hf => ?_)
  refine xg_e hf (fun hg8 hf => ?_)
  refine xa_ld (t := 100) (τ := 0) (v := .int (xm_i h5 0 (Int32.toNatClampNeg (c5 + (1 : Int32))))) rfl rfl hg7 rfl hg8 rfl ?_
  refine xw_G (pc' := 2142) (st' := [.ref 0, .int (xm_i h5 0 (Int32.toNatClampNeg (c5 + (1 : Int32)))), .ref 302]) rfl rfl trivial ?_
  refine xw_G (pc' := 2144) (st' := [.int c5, .ref 0, .int (xm_i h5 0 (Int32.toNatClampNeg (c5 + (1 : Int32)))), .ref 302]) rfl rfl trivial ?_
  refine xw_G (pc' := 2145) (st' := [.int (2 : Int32), .int c5, .ref 0, .int (xm_i h5 0 (Int32.toNatClampNeg (c5 + (1 : Int32)))), .ref 302]) rfl rfl trivial ?_
  refine xw_G (pc' := 2146) (st' := [.int (c5 + (2 : Int32)), .ref 0, .int (xm_i h5 0 (Int32.toNatClampNeg (c5 + (1 : Int32)))), .ref 302]) rfl rfl trivial ?_
  refine xg_e hf (fun hg9 hf => ?_)
  refine xa_ld (t := 100) (τ := 0) (v := .int (xm_i h5 0 (Int32.toNatClampNeg (c5 + (2 : Int32))))) rfl rfl hg7 rfl hg9 rfl ?_
  refine xb_e hf (fun v10 h11 e12 hf => ?_)
  refine xw_V (v := some (.int v10)) rfl rfl (xkf (xs_k hS rfl rfl : xm_k h5 302 = (11, 0))) (Nat.le_of_ble_eq_true rfl) (Nat.le_of_ble_eq_true rfl) (xm_Rn_le (Nat.le_of_ble_eq_true rfl) (t_X11_setMode  hS e12).1) ?_
  have hS := (t_X11_setMode  hS e12).2
  show xm_W _ _ _ 2150 _ [.int v10] _
  refine xw_G (pc' := 2152) (ls' := [some (.ref 0), some (.ref 160), some (.ref 302), some (.ref 316), some (.ref 317), some (.int c5), some (.int v4), some (.int v10), none]) (st' := []) rfl rfl (Nat.le_of_ble_eq_true rfl) ?_
  refine xw_G (pc' := 2153) (st' := [.ref 302]) rfl rfl trivial ?_
  refine xb_e hf (fun v13 h14 e15 hf => ?_)
  refine xw_V (v := some (.int v13)) rfl rfl (xkf (xs_k hS rfl rfl : xm_k h11 302 = (11, 0))) (Nat.le_of_ble_eq_true rfl) (Nat.le_of_ble_eq_true rfl) (xm_Rn_le (Nat.le_of_ble_eq_true rfl) (t_X11_thrown  hS e15).1) ?_
  have hS := (t_X11_thrown  hS e15).2
  show xm_W _ _ _ 2156 _ [.int v13] _
  refine xw_G (pc' := 2158) (st' := [.int v4, .int v13]) rfl rfl trivial ?_
  refine xj_ic_eq rfl hf (fun hc16 hf => ?_) (fun hc16 hf => ?_)
  · refine xw_G (pc' := 2165) (st' := [.int v4]) rfl rfl trivial ?_
    refine xj_if_ne rfl hf (fun hc17 hf => ?_) (fun hc17 hf => ?_)
    · refine xw_G (pc' := 2169) (st' := [.ref 316]) rfl rfl trivial ?_
      refine xw_G (pc' := 2170) (st' := [.int (0 : Int32), .ref 316]) rfl rfl trivial ?_
      refine xa_ld (t := 104) (τ := 4) (v := .long (xm_l h14 316 0)) rfl rfl (xkf (xs_k hS rfl rfl : xm_k h14 316 = (104, 1))) (xkn (xs_k hS rfl rfl : xm_k h14 316 = (104, 1))) (by decide : xin (0 : Int32) 1) rfl ?_
      refine xw_G (pc' := 2173) (st' := [.int v10, .long (xm_l h14 316 0)]) rfl rfl trivial ?_
      refine xw_G (pc' := 2174) (st' := [.long (Int32.toInt64 v10), .long (xm_l h14 316 0)]) rfl rfl trivial ?_
      refine xw_G (pc' := 2175) (st' := [.int (lg_cmp (xm_l h14 316 0) (Int32.toInt64 v10))]) rfl rfl trivial ?_
      refine xj_if_eq rfl hf (fun hc18 hf => ?_) (fun hc18 hf => ?_)
      · refine xw_G (pc' := 2876) (st' := []) rfl rfl trivial ?_
        refine xw_G (pc' := 2879) (ls' := [some (.ref 0), some (.ref 160), some (.ref 302), some (.ref 316), some (.ref 317), some (.int (c5 + (6 : Int32))), some (.int v4), some (.int v10), none]) (st' := []) rfl rfl (Nat.le_of_ble_eq_true rfl) ?_
        refine xw_G (pc' := 28) (st' := []) rfl rfl trivial ?_
        refine xw_M rfl rfl ?_
        exact ih _ _ ⟨_, _, hS⟩ hf
      · refine xw_G (pc' := 2179) (st' := [.int (0 : Int32)]) rfl rfl trivial ?_
        exact xr_i (inj := xji) (φ := fun h => ∃ ρ δ, xS ρ δ h) rfl rfl rfl rfl hf hQ ⟨_, _, hS⟩
    · refine xw_G (pc' := 2876) (st' := []) rfl rfl trivial ?_
      refine xw_G (pc' := 2879) (ls' := [some (.ref 0), some (.ref 160), some (.ref 302), some (.ref 316), some (.ref 317), some (.int (c5 + (6 : Int32))), some (.int v4), some (.int v10), none]) (st' := []) rfl rfl (Nat.le_of_ble_eq_true rfl) ?_
      refine xw_G (pc' := 28) (st' := []) rfl rfl trivial ?_
      refine xw_M rfl rfl ?_
      exact ih _ _ ⟨_, _, hS⟩ hf
  · refine xw_G (pc' := 2162) (st' := [.int (0 : Int32)]) rfl rfl trivial ?_
    exact xr_i (inj := xji) (φ := fun h => ∃ ρ δ, xS ρ δ h) rfl rfl rfl rfl hf hQ ⟨_, _, hS⟩

theorem tc_L_law_33 {N ρ δ : Nat} {Q : xm_O → xm_H → Prop} {w : Int32 × xm_H} (hQ : (∃ ρ δ, xS ρ δ w.2) → Q (xji w.1) w.2) {rec : Int32 → xm_H → Option (Int32 × xm_H)} (ih : ∀ (c5 : Int32) (h : xm_H), (∃ ρ δ, xS ρ δ h) → rec c5 h = some w → xm_W (xm_Rn xX 60) xM_L_law Q 28 [some (.ref 0), some (.ref 160), some (.ref 302), some (.ref 316), some (.ref 317), some (.int c5), none, none, none] [] h) : ∀ (c5 : Int32) (h : xm_H), xS ρ δ h → f_L_law_c33 N ρ δ rec c5 h = some w → xm_W (xm_Rn xX 60) xM_L_law Q 2183 [some (.ref 0), some (.ref 160), some (.ref 302), some (.ref 316), some (.ref 317), some (.int c5), none, none, none] [] h := by
  intro c5 h hS hf
  unfold f_L_law_c33 at hf
  refine xw_G (pc' := 2184) (st' := [.ref 160]) rfl rfl trivial ?_
  refine xw_G (pc' := 2185) (st' := [.ref 0, .ref 160]) rfl rfl trivial ?_
  refine xw_G (pc' := 2187) (st' := [.int c5, .ref 0, .ref 160]) rfl rfl trivial ?_
  refine xw_G (pc' := 2188) (st' := [.int (1 : Int32), .int c5, .ref 0, .ref 160]) rfl rfl trivial ?_
  refine xw_G (pc' := 2189) (st' := [.int (c5 + (1 : Int32)), .ref 0, .ref 160]) rfl rfl trivial ?_
  refine xg_e hf (fun hg1 hf => ?_)
  refine xg_e hf (fun hg2 hf => ?_)
  refine xa_ld (t := 100) (τ := 0) (v := .int (xm_i h 0 (Int32.toNatClampNeg (c5 + (1 : Int32))))) rfl rfl hg1 rfl hg2 rfl ?_
  refine xw_G (pc' := 2191) (st' := [.ref 0, .int (xm_i h 0 (Int32.toNatClampNeg (c5 + (1 : Int32)))), .ref 160]) rfl rfl trivial ?_
  refine xw_G (pc' := 2193) (st' := [.int c5, .ref 0, .int (xm_i h 0 (Int32.toNatClampNeg (c5 + (1 : Int32)))), .ref 160]) rfl rfl trivial ?_
  refine xw_G (pc' := 2194) (st' := [.int (2 : Int32), .int c5, .ref 0, .int (xm_i h 0 (Int32.toNatClampNeg (c5 + (1 : Int32)))), .ref 160]) rfl rfl trivial ?_
  refine xw_G (pc' := 2195) (st' := [.int (c5 + (2 : Int32)), .ref 0, .int (xm_i h 0 (Int32.toNatClampNeg (c5 + (1 : Int32)))), .ref 160]) rfl rfl trivial ?_
  refine xg_e hf (fun hg3 hf => ?_)
  refine xa_ld (t := 100) (τ := 0) (v := .int (xm_i h 0 (Int32.toNatClampNeg (c5 + (2 : Int32))))) rfl rfl hg1 rfl hg3 rfl ?_
  refine xw_G (pc' := 2197) (st' := [.ref 316, .int (xm_i h 0 (Int32.toNatClampNeg (c5 + (2 : Int32)))), .int (xm_i h 0 (Int32.toNatClampNeg (c5 + (1 : Int32)))), .ref 160]) rfl rfl trivial ?_
  refine xb_e hf (fun v4 h5 e6 hf => ?_)
  refine xw_S10 (v := some (.int v4)) rfl (Nat.le_of_ble_eq_true rfl) (Nat.le_of_ble_eq_true rfl) (xm_Rn_le (Nat.le_of_ble_eq_true rfl) (t_L_setFloor  hS e6).1) ?_
  have hS := (t_L_setFloor  hS e6).2
  show xm_W _ _ _ 2200 _ [.int v4] _
  refine xw_G (pc' := 2202) (ls' := [some (.ref 0), some (.ref 160), some (.ref 302), some (.ref 316), some (.ref 317), some (.int c5), some (.int v4), none, none]) (st' := []) rfl rfl (Nat.le_of_ble_eq_true rfl) ?_
  refine xw_G (pc' := 2203) (st' := [.ref 302]) rfl rfl trivial ?_
  refine xw_G (pc' := 2204) (st' := [.ref 0, .ref 302]) rfl rfl trivial ?_
  refine xw_G (pc' := 2206) (st' := [.int c5, .ref 0, .ref 302]) rfl rfl trivial ?_
  refine xw_G (pc' := 2207) (st' := [.int (1 : Int32), .int c5, .ref 0, .ref 302]) rfl rfl trivial ?_
  refine xw_G (pc' := 2208) (st' := [.int (c5 + (1 : Int32)), .ref 0, .ref 302]) rfl rfl trivial ?_
  refine xg_e hf (fun hg7 hf => ?_)
  refine xg_e hf (fun hg8 hf => ?_)
  refine xa_ld (t := 100) (τ := 0) (v := .int (xm_i h5 0 (Int32.toNatClampNeg (c5 + (1 : Int32))))) rfl rfl hg7 rfl hg8 rfl ?_
  refine xw_G (pc' := 2210) (st' := [.ref 0, .int (xm_i h5 0 (Int32.toNatClampNeg (c5 + (1 : Int32)))), .ref 302]) rfl rfl trivial ?_
  refine xw_G (pc' := 2212) (st' := [.int c5, .ref 0, .int (xm_i h5 0 (Int32.toNatClampNeg (c5 + (1 : Int32)))), .ref 302]) rfl rfl trivial ?_
  refine xw_G (pc' := 2213) (st' := [.int (2 : Int32), .int c5, .ref 0, .int (xm_i h5 0 (Int32.toNatClampNeg (c5 + (1 : Int32)))), .ref 302]) rfl rfl trivial ?_
  refine xw_G (pc' := 2214) (st' := [.int (c5 + (2 : Int32)), .ref 0, .int (xm_i h5 0 (Int32.toNatClampNeg (c5 + (1 : Int32)))), .ref 302]) rfl rfl trivial ?_
  refine xg_e hf (fun hg9 hf => ?_)
  refine xa_ld (t := 100) (τ := 0) (v := .int (xm_i h5 0 (Int32.toNatClampNeg (c5 + (2 : Int32))))) rfl rfl hg7 rfl hg9 rfl ?_
  refine xb_e hf (fun v10 h11 e12 hf => ?_)
  refine xw_V (v := some (.int v10)) rfl rfl (xkf (xs_k hS rfl rfl : xm_k h5 302 = (11, 0))) (Nat.le_of_ble_eq_true rfl) (Nat.le_of_ble_eq_true rfl) (xm_Rn_le (Nat.le_of_ble_eq_true rfl) (t_X11_setFloor  hS e12).1) ?_
  have hS := (t_X11_setFloor  hS e12).2
  show xm_W _ _ _ 2218 _ [.int v10] _
  refine xw_G (pc' := 2220) (ls' := [some (.ref 0), some (.ref 160), some (.ref 302), some (.ref 316), some (.ref 317), some (.int c5), some (.int v4), some (.int v10), none]) (st' := []) rfl rfl (Nat.le_of_ble_eq_true rfl) ?_
  refine xw_G (pc' := 2221) (st' := [.ref 302]) rfl rfl trivial ?_
  refine xb_e hf (fun v13 h14 e15 hf => ?_)
  refine xw_V (v := some (.int v13)) rfl rfl (xkf (xs_k hS rfl rfl : xm_k h11 302 = (11, 0))) (Nat.le_of_ble_eq_true rfl) (Nat.le_of_ble_eq_true rfl) (xm_Rn_le (Nat.le_of_ble_eq_true rfl) (t_X11_thrown  hS e15).1) ?_
  have hS := (t_X11_thrown  hS e15).2
  show xm_W _ _ _ 2224 _ [.int v13] _
  refine xw_G (pc' := 2226) (st' := [.int v4, .int v13]) rfl rfl trivial ?_
  refine xj_ic_eq rfl hf (fun hc16 hf => ?_) (fun hc16 hf => ?_)
  · refine xw_G (pc' := 2233) (st' := [.int v4]) rfl rfl trivial ?_
    refine xj_if_ne rfl hf (fun hc17 hf => ?_) (fun hc17 hf => ?_)
    · refine xw_G (pc' := 2237) (st' := [.ref 316]) rfl rfl trivial ?_
      refine xw_G (pc' := 2238) (st' := [.int (0 : Int32), .ref 316]) rfl rfl trivial ?_
      refine xa_ld (t := 104) (τ := 4) (v := .long (xm_l h14 316 0)) rfl rfl (xkf (xs_k hS rfl rfl : xm_k h14 316 = (104, 1))) (xkn (xs_k hS rfl rfl : xm_k h14 316 = (104, 1))) (by decide : xin (0 : Int32) 1) rfl ?_
      refine xw_G (pc' := 2241) (st' := [.int v10, .long (xm_l h14 316 0)]) rfl rfl trivial ?_
      refine xw_G (pc' := 2242) (st' := [.long (Int32.toInt64 v10), .long (xm_l h14 316 0)]) rfl rfl trivial ?_
      refine xw_G (pc' := 2243) (st' := [.int (lg_cmp (xm_l h14 316 0) (Int32.toInt64 v10))]) rfl rfl trivial ?_
      refine xj_if_eq rfl hf (fun hc18 hf => ?_) (fun hc18 hf => ?_)
      · refine xw_G (pc' := 2876) (st' := []) rfl rfl trivial ?_
        refine xw_G (pc' := 2879) (ls' := [some (.ref 0), some (.ref 160), some (.ref 302), some (.ref 316), some (.ref 317), some (.int (c5 + (6 : Int32))), some (.int v4), some (.int v10), none]) (st' := []) rfl rfl (Nat.le_of_ble_eq_true rfl) ?_
        refine xw_G (pc' := 28) (st' := []) rfl rfl trivial ?_
        refine xw_M rfl rfl ?_
        exact ih _ _ ⟨_, _, hS⟩ hf
      · refine xw_G (pc' := 2247) (st' := [.int (0 : Int32)]) rfl rfl trivial ?_
        exact xr_i (inj := xji) (φ := fun h => ∃ ρ δ, xS ρ δ h) rfl rfl rfl rfl hf hQ ⟨_, _, hS⟩
    · refine xw_G (pc' := 2876) (st' := []) rfl rfl trivial ?_
      refine xw_G (pc' := 2879) (ls' := [some (.ref 0), some (.ref 160), some (.ref 302), some (.ref 316), some (.ref 317), some (.int (c5 + (6 : Int32))), some (.int v4), some (.int v10), none]) (st' := []) rfl rfl (Nat.le_of_ble_eq_true rfl) ?_
      refine xw_G (pc' := 28) (st' := []) rfl rfl trivial ?_
      refine xw_M rfl rfl ?_
      exact ih _ _ ⟨_, _, hS⟩ hf
  · refine xw_G (pc' := 2230) (st' := [.int (0 : Int32)]) rfl rfl trivial ?_
    exact xr_i (inj := xji) (φ := fun h => ∃ ρ δ, xS ρ δ h) rfl rfl rfl rfl hf hQ ⟨_, _, hS⟩

theorem tc_L_law_34 {N ρ δ : Nat} {Q : xm_O → xm_H → Prop} {w : Int32 × xm_H} (hQ : (∃ ρ δ, xS ρ δ w.2) → Q (xji w.1) w.2) {rec : Int32 → xm_H → Option (Int32 × xm_H)} (ih : ∀ (c5 : Int32) (h : xm_H), (∃ ρ δ, xS ρ δ h) → rec c5 h = some w → xm_W (xm_Rn xX 60) xM_L_law Q 28 [some (.ref 0), some (.ref 160), some (.ref 302), some (.ref 316), some (.ref 317), some (.int c5), none, none, none] [] h) : ∀ (c5 : Int32) (h : xm_H), xS ρ δ h → f_L_law_c34 N ρ δ rec c5 h = some w → xm_W (xm_Rn xX 60) xM_L_law Q 2251 [some (.ref 0), some (.ref 160), some (.ref 302), some (.ref 316), some (.ref 317), some (.int c5), none, none, none] [] h := by
  intro c5 h hS hf
  unfold f_L_law_c34 at hf
  refine xw_G (pc' := 2252) (st' := [.ref 160]) rfl rfl trivial ?_
  refine xb_e hf (fun v1 h2 e3 hf => ?_)
  refine xw_V (v := some (.int v1)) rfl rfl (xkf (xs_k hS rfl rfl : xm_k h 160 = (0, 0))) (Nat.le_of_ble_eq_true rfl) (Nat.le_of_ble_eq_true rfl) (xm_Rn_le (Nat.le_of_ble_eq_true rfl) (t_X10_undo  hS e3).1) ?_
  have hS := (t_X10_undo  hS e3).2
  show xm_W _ _ _ 2255 _ [.int v1] _
  refine xw_G (pc' := 2256) (st' := [.ref 302, .int v1]) rfl rfl trivial ?_
  refine xb_e hf (fun v4 h5 e6 hf => ?_)
  refine xw_V (v := some (.int v4)) rfl rfl (xkf (xs_k hS rfl rfl : xm_k h2 302 = (11, 0))) (Nat.le_of_ble_eq_true rfl) (Nat.le_of_ble_eq_true rfl) (xm_Rn_le (Nat.le_of_ble_eq_true rfl) (t_X11_undo  hS e6).1) ?_
  have hS := (t_X11_undo  hS e6).2
  show xm_W _ _ _ 2259 _ [.int v4, .int v1] _
  refine xj_ic_eq rfl hf (fun hc7 hf => ?_) (fun hc7 hf => ?_)
  · refine xw_G (pc' := 2879) (ls' := [some (.ref 0), some (.ref 160), some (.ref 302), some (.ref 316), some (.ref 317), some (.int (c5 + (6 : Int32))), none, none, none]) (st' := []) rfl rfl (Nat.le_of_ble_eq_true rfl) ?_
    refine xw_G (pc' := 28) (st' := []) rfl rfl trivial ?_
    refine xw_M rfl rfl ?_
    exact ih _ _ ⟨_, _, hS⟩ hf
  · refine xw_G (pc' := 2263) (st' := [.int (0 : Int32)]) rfl rfl trivial ?_
    exact xr_i (inj := xji) (φ := fun h => ∃ ρ δ, xS ρ δ h) rfl rfl rfl rfl hf hQ ⟨_, _, hS⟩

theorem tc_L_law_35 {N ρ δ : Nat} {Q : xm_O → xm_H → Prop} {w : Int32 × xm_H} (hQ : (∃ ρ δ, xS ρ δ w.2) → Q (xji w.1) w.2) {rec : Int32 → xm_H → Option (Int32 × xm_H)} (ih : ∀ (c5 : Int32) (h : xm_H), (∃ ρ δ, xS ρ δ h) → rec c5 h = some w → xm_W (xm_Rn xX 60) xM_L_law Q 28 [some (.ref 0), some (.ref 160), some (.ref 302), some (.ref 316), some (.ref 317), some (.int c5), none, none, none] [] h) : ∀ (c5 : Int32) (h : xm_H), xS ρ δ h → f_L_law_c35 N ρ δ rec c5 h = some w → xm_W (xm_Rn xX 60) xM_L_law Q 2264 [some (.ref 0), some (.ref 160), some (.ref 302), some (.ref 316), some (.ref 317), some (.int c5), none, none, none] [] h := by
  intro c5 h hS hf
  unfold f_L_law_c35 at hf
  refine xw_G (pc' := 2265) (st' := [.ref 160]) rfl rfl trivial ?_
  refine xb_e hf (fun v1 h2 e3 hf => ?_)
  refine xw_V (v := some (.int v1)) rfl rfl (xkf (xs_k hS rfl rfl : xm_k h 160 = (0, 0))) (Nat.le_of_ble_eq_true rfl) (Nat.le_of_ble_eq_true rfl) (xm_Rn_le (Nat.le_of_ble_eq_true rfl) (t_X10_impressions  hS e3).1) ?_
  have hS := (t_X10_impressions  hS e3).2
  show xm_W _ _ _ 2268 _ [.int v1] _
  refine xw_G (pc' := 2269) (st' := [.ref 302, .int v1]) rfl rfl trivial ?_
  refine xb_e hf (fun v4 h5 e6 hf => ?_)
  refine xw_V (v := some (.int v4)) rfl rfl (xkf (xs_k hS rfl rfl : xm_k h2 302 = (11, 0))) (Nat.le_of_ble_eq_true rfl) (Nat.le_of_ble_eq_true rfl) (xm_Rn_le (Nat.le_of_ble_eq_true rfl) (t_X11_impressions  hS e6).1) ?_
  have hS := (t_X11_impressions  hS e6).2
  show xm_W _ _ _ 2272 _ [.int v4, .int v1] _
  refine xj_ic_eq rfl hf (fun hc7 hf => ?_) (fun hc7 hf => ?_)
  · refine xw_G (pc' := 2879) (ls' := [some (.ref 0), some (.ref 160), some (.ref 302), some (.ref 316), some (.ref 317), some (.int (c5 + (6 : Int32))), none, none, none]) (st' := []) rfl rfl (Nat.le_of_ble_eq_true rfl) ?_
    refine xw_G (pc' := 28) (st' := []) rfl rfl trivial ?_
    refine xw_M rfl rfl ?_
    exact ih _ _ ⟨_, _, hS⟩ hf
  · refine xw_G (pc' := 2276) (st' := [.int (0 : Int32)]) rfl rfl trivial ?_
    exact xr_i (inj := xji) (φ := fun h => ∃ ρ δ, xS ρ δ h) rfl rfl rfl rfl hf hQ ⟨_, _, hS⟩

theorem tc_L_law_36 {N ρ δ : Nat} {Q : xm_O → xm_H → Prop} {w : Int32 × xm_H} (hQ : (∃ ρ δ, xS ρ δ w.2) → Q (xji w.1) w.2) {rec : Int32 → xm_H → Option (Int32 × xm_H)} (ih : ∀ (c5 : Int32) (h : xm_H), (∃ ρ δ, xS ρ δ h) → rec c5 h = some w → xm_W (xm_Rn xX 60) xM_L_law Q 28 [some (.ref 0), some (.ref 160), some (.ref 302), some (.ref 316), some (.ref 317), some (.int c5), none, none, none] [] h) : ∀ (c5 : Int32) (h : xm_H), xS ρ δ h → f_L_law_c36 N ρ δ rec c5 h = some w → xm_W (xm_Rn xX 60) xM_L_law Q 2277 [some (.ref 0), some (.ref 160), some (.ref 302), some (.ref 316), some (.ref 317), some (.int c5), none, none, none] [] h := by
  intro c5 h hS hf
  unfold f_L_law_c36 at hf
  refine xw_G (pc' := 2278) (st' := [.ref 160]) rfl rfl trivial ?_
  refine xw_G (pc' := 2279) (st' := [.ref 0, .ref 160]) rfl rfl trivial ?_
  refine xw_G (pc' := 2281) (st' := [.int c5, .ref 0, .ref 160]) rfl rfl trivial ?_
  refine xw_G (pc' := 2282) (st' := [.int (1 : Int32), .int c5, .ref 0, .ref 160]) rfl rfl trivial ?_
  refine xw_G (pc' := 2283) (st' := [.int (c5 + (1 : Int32)), .ref 0, .ref 160]) rfl rfl trivial ?_
  refine xg_e hf (fun hg1 hf => ?_)
  refine xg_e hf (fun hg2 hf => ?_)
  refine xa_ld (t := 100) (τ := 0) (v := .int (xm_i h 0 (Int32.toNatClampNeg (c5 + (1 : Int32))))) rfl rfl hg1 rfl hg2 rfl ?_
  refine xw_G (pc' := 2285) (st' := [.ref 0, .int (xm_i h 0 (Int32.toNatClampNeg (c5 + (1 : Int32)))), .ref 160]) rfl rfl trivial ?_
  refine xw_G (pc' := 2287) (st' := [.int c5, .ref 0, .int (xm_i h 0 (Int32.toNatClampNeg (c5 + (1 : Int32)))), .ref 160]) rfl rfl trivial ?_
  refine xw_G (pc' := 2288) (st' := [.int (2 : Int32), .int c5, .ref 0, .int (xm_i h 0 (Int32.toNatClampNeg (c5 + (1 : Int32)))), .ref 160]) rfl rfl trivial ?_
  refine xw_G (pc' := 2289) (st' := [.int (c5 + (2 : Int32)), .ref 0, .int (xm_i h 0 (Int32.toNatClampNeg (c5 + (1 : Int32)))), .ref 160]) rfl rfl trivial ?_
  refine xg_e hf (fun hg3 hf => ?_)
  refine xa_ld (t := 100) (τ := 0) (v := .int (xm_i h 0 (Int32.toNatClampNeg (c5 + (2 : Int32))))) rfl rfl hg1 rfl hg3 rfl ?_
  refine xw_G (pc' := 2291) (st' := [.ref 316, .int (xm_i h 0 (Int32.toNatClampNeg (c5 + (2 : Int32)))), .int (xm_i h 0 (Int32.toNatClampNeg (c5 + (1 : Int32)))), .ref 160]) rfl rfl trivial ?_
  refine xb_e hf (fun v4 h5 e6 hf => ?_)
  refine xw_S10 (v := some (.int v4)) rfl (Nat.le_of_ble_eq_true rfl) (Nat.le_of_ble_eq_true rfl) (xm_Rn_le (Nat.le_of_ble_eq_true rfl) (t_L_impression  hS e6).1) ?_
  have hS := (t_L_impression  hS e6).2
  show xm_W _ _ _ 2294 _ [.int v4] _
  refine xw_G (pc' := 2296) (ls' := [some (.ref 0), some (.ref 160), some (.ref 302), some (.ref 316), some (.ref 317), some (.int c5), some (.int v4), none, none]) (st' := []) rfl rfl (Nat.le_of_ble_eq_true rfl) ?_
  refine xw_G (pc' := 2297) (st' := [.ref 302]) rfl rfl trivial ?_
  refine xw_G (pc' := 2298) (st' := [.ref 0, .ref 302]) rfl rfl trivial ?_
  refine xw_G (pc' := 2300) (st' := [.int c5, .ref 0, .ref 302]) rfl rfl trivial ?_
  refine xw_G (pc' := 2301) (st' := [.int (1 : Int32), .int c5, .ref 0, .ref 302]) rfl rfl trivial ?_
  refine xw_G (pc' := 2302) (st' := [.int (c5 + (1 : Int32)), .ref 0, .ref 302]) rfl rfl trivial ?_
  refine xg_e hf (fun hg7 hf => ?_)
  refine xg_e hf (fun hg8 hf => ?_)
  refine xa_ld (t := 100) (τ := 0) (v := .int (xm_i h5 0 (Int32.toNatClampNeg (c5 + (1 : Int32))))) rfl rfl hg7 rfl hg8 rfl ?_
  refine xw_G (pc' := 2304) (st' := [.ref 0, .int (xm_i h5 0 (Int32.toNatClampNeg (c5 + (1 : Int32)))), .ref 302]) rfl rfl trivial ?_
  refine xw_G (pc' := 2306) (st' := [.int c5, .ref 0, .int (xm_i h5 0 (Int32.toNatClampNeg (c5 + (1 : Int32)))), .ref 302]) rfl rfl trivial ?_
  refine xw_G (pc' := 2307) (st' := [.int (2 : Int32), .int c5, .ref 0, .int (xm_i h5 0 (Int32.toNatClampNeg (c5 + (1 : Int32)))), .ref 302]) rfl rfl trivial ?_
  refine xw_G (pc' := 2308) (st' := [.int (c5 + (2 : Int32)), .ref 0, .int (xm_i h5 0 (Int32.toNatClampNeg (c5 + (1 : Int32)))), .ref 302]) rfl rfl trivial ?_
  refine xg_e hf (fun hg9 hf => ?_)
  refine xa_ld (t := 100) (τ := 0) (v := .int (xm_i h5 0 (Int32.toNatClampNeg (c5 + (2 : Int32))))) rfl rfl hg7 rfl hg9 rfl ?_
  refine xb_e hf (fun v10 h11 e12 hf => ?_)
  refine xw_V (v := some (.int v10)) rfl rfl (xkf (xs_k hS rfl rfl : xm_k h5 302 = (11, 0))) (Nat.le_of_ble_eq_true rfl) (Nat.le_of_ble_eq_true rfl) (xm_Rn_le (Nat.le_of_ble_eq_true rfl) (t_X11_impression  hS e12).1) ?_
  have hS := (t_X11_impression  hS e12).2
  show xm_W _ _ _ 2312 _ [.int v10] _
  refine xw_G (pc' := 2314) (ls' := [some (.ref 0), some (.ref 160), some (.ref 302), some (.ref 316), some (.ref 317), some (.int c5), some (.int v4), some (.int v10), none]) (st' := []) rfl rfl (Nat.le_of_ble_eq_true rfl) ?_
  refine xw_G (pc' := 2315) (st' := [.ref 302]) rfl rfl trivial ?_
  refine xb_e hf (fun v13 h14 e15 hf => ?_)
  refine xw_V (v := some (.int v13)) rfl rfl (xkf (xs_k hS rfl rfl : xm_k h11 302 = (11, 0))) (Nat.le_of_ble_eq_true rfl) (Nat.le_of_ble_eq_true rfl) (xm_Rn_le (Nat.le_of_ble_eq_true rfl) (t_X11_thrown  hS e15).1) ?_
  have hS := (t_X11_thrown  hS e15).2
  show xm_W _ _ _ 2318 _ [.int v13] _
  refine xw_G (pc' := 2320) (st' := [.int v4, .int v13]) rfl rfl trivial ?_
  refine xj_ic_eq rfl hf (fun hc16 hf => ?_) (fun hc16 hf => ?_)
  · refine xw_G (pc' := 2327) (st' := [.int v4]) rfl rfl trivial ?_
    refine xj_if_ne rfl hf (fun hc17 hf => ?_) (fun hc17 hf => ?_)
    · refine xw_G (pc' := 2331) (st' := [.ref 316]) rfl rfl trivial ?_
      refine xw_G (pc' := 2332) (st' := [.int (0 : Int32), .ref 316]) rfl rfl trivial ?_
      refine xa_ld (t := 104) (τ := 4) (v := .long (xm_l h14 316 0)) rfl rfl (xkf (xs_k hS rfl rfl : xm_k h14 316 = (104, 1))) (xkn (xs_k hS rfl rfl : xm_k h14 316 = (104, 1))) (by decide : xin (0 : Int32) 1) rfl ?_
      refine xw_G (pc' := 2335) (st' := [.int v10, .long (xm_l h14 316 0)]) rfl rfl trivial ?_
      refine xw_G (pc' := 2336) (st' := [.long (Int32.toInt64 v10), .long (xm_l h14 316 0)]) rfl rfl trivial ?_
      refine xw_G (pc' := 2337) (st' := [.int (lg_cmp (xm_l h14 316 0) (Int32.toInt64 v10))]) rfl rfl trivial ?_
      refine xj_if_eq rfl hf (fun hc18 hf => ?_) (fun hc18 hf => ?_)
      · refine xw_G (pc' := 2876) (st' := []) rfl rfl trivial ?_
        refine xw_G (pc' := 2879) (ls' := [some (.ref 0), some (.ref 160), some (.ref 302), some (.ref 316), some (.ref 317), some (.int (c5 + (6 : Int32))), some (.int v4), some (.int v10), none]) (st' := []) rfl rfl (Nat.le_of_ble_eq_true rfl) ?_
        refine xw_G (pc' := 28) (st' := []) rfl rfl trivial ?_
        refine xw_M rfl rfl ?_
        exact ih _ _ ⟨_, _, hS⟩ hf
      · refine xw_G (pc' := 2341) (st' := [.int (0 : Int32)]) rfl rfl trivial ?_
        exact xr_i (inj := xji) (φ := fun h => ∃ ρ δ, xS ρ δ h) rfl rfl rfl rfl hf hQ ⟨_, _, hS⟩
    · refine xw_G (pc' := 2876) (st' := []) rfl rfl trivial ?_
      refine xw_G (pc' := 2879) (ls' := [some (.ref 0), some (.ref 160), some (.ref 302), some (.ref 316), some (.ref 317), some (.int (c5 + (6 : Int32))), some (.int v4), some (.int v10), none]) (st' := []) rfl rfl (Nat.le_of_ble_eq_true rfl) ?_
      refine xw_G (pc' := 28) (st' := []) rfl rfl trivial ?_
      refine xw_M rfl rfl ?_
      exact ih _ _ ⟨_, _, hS⟩ hf
  · refine xw_G (pc' := 2324) (st' := [.int (0 : Int32)]) rfl rfl trivial ?_
    exact xr_i (inj := xji) (φ := fun h => ∃ ρ δ, xS ρ δ h) rfl rfl rfl rfl hf hQ ⟨_, _, hS⟩

theorem tc_L_law_37 {N ρ δ : Nat} {Q : xm_O → xm_H → Prop} {w : Int32 × xm_H} (hQ : (∃ ρ δ, xS ρ δ w.2) → Q (xji w.1) w.2) {rec : Int32 → xm_H → Option (Int32 × xm_H)} (ih : ∀ (c5 : Int32) (h : xm_H), (∃ ρ δ, xS ρ δ h) → rec c5 h = some w → xm_W (xm_Rn xX 60) xM_L_law Q 28 [some (.ref 0), some (.ref 160), some (.ref 302), some (.ref 316), some (.ref 317), some (.int c5), none, none, none] [] h) : ∀ (c5 : Int32) (h : xm_H), xS ρ δ h → f_L_law_c37 N ρ δ rec c5 h = some w → xm_W (xm_Rn xX 60) xM_L_law Q 2345 [some (.ref 0), some (.ref 160), some (.ref 302), some (.ref 316), some (.ref 317), some (.int c5), none, none, none] [] h := by
  intro c5 h hS hf
  unfold f_L_law_c37 at hf
  refine xw_G (pc' := 2346) (st' := [.ref 160]) rfl rfl trivial ?_
  refine xb_e hf (fun v1 h2 e3 hf => ?_)
  refine xw_V (v := some (.int v1)) rfl rfl (xkf (xs_k hS rfl rfl : xm_k h 160 = (0, 0))) (Nat.le_of_ble_eq_true rfl) (Nat.le_of_ble_eq_true rfl) (xm_Rn_le (Nat.le_of_ble_eq_true rfl) (t_X10_revenue  hS e3).1) ?_
  have hS := (t_X10_revenue  hS e3).2
  show xm_W _ _ _ 2349 _ [.int v1] _
  refine xw_G (pc' := 2350) (st' := [.ref 302, .int v1]) rfl rfl trivial ?_
  refine xb_e hf (fun v4 h5 e6 hf => ?_)
  refine xw_V (v := some (.int v4)) rfl rfl (xkf (xs_k hS rfl rfl : xm_k h2 302 = (11, 0))) (Nat.le_of_ble_eq_true rfl) (Nat.le_of_ble_eq_true rfl) (xm_Rn_le (Nat.le_of_ble_eq_true rfl) (t_X11_revenue  hS e6).1) ?_
  have hS := (t_X11_revenue  hS e6).2
  show xm_W _ _ _ 2353 _ [.int v4, .int v1] _
  refine xj_ic_eq rfl hf (fun hc7 hf => ?_) (fun hc7 hf => ?_)
  · refine xw_G (pc' := 2879) (ls' := [some (.ref 0), some (.ref 160), some (.ref 302), some (.ref 316), some (.ref 317), some (.int (c5 + (6 : Int32))), none, none, none]) (st' := []) rfl rfl (Nat.le_of_ble_eq_true rfl) ?_
    refine xw_G (pc' := 28) (st' := []) rfl rfl trivial ?_
    refine xw_M rfl rfl ?_
    exact ih _ _ ⟨_, _, hS⟩ hf
  · refine xw_G (pc' := 2357) (st' := [.int (0 : Int32)]) rfl rfl trivial ?_
    exact xr_i (inj := xji) (φ := fun h => ∃ ρ δ, xS ρ δ h) rfl rfl rfl rfl hf hQ ⟨_, _, hS⟩

theorem tc_L_law_38 {N ρ δ : Nat} {Q : xm_O → xm_H → Prop} {w : Int32 × xm_H} (hQ : (∃ ρ δ, xS ρ δ w.2) → Q (xji w.1) w.2) {rec : Int32 → xm_H → Option (Int32 × xm_H)} (ih : ∀ (c5 : Int32) (h : xm_H), (∃ ρ δ, xS ρ δ h) → rec c5 h = some w → xm_W (xm_Rn xX 60) xM_L_law Q 28 [some (.ref 0), some (.ref 160), some (.ref 302), some (.ref 316), some (.ref 317), some (.int c5), none, none, none] [] h) : ∀ (c5 : Int32) (h : xm_H), xS ρ δ h → f_L_law_c38 N ρ δ rec c5 h = some w → xm_W (xm_Rn xX 60) xM_L_law Q 2358 [some (.ref 0), some (.ref 160), some (.ref 302), some (.ref 316), some (.ref 317), some (.int c5), none, none, none] [] h := by
  intro c5 h hS hf
  unfold f_L_law_c38 at hf
  refine xw_G (pc' := 2359) (st' := [.ref 160]) rfl rfl trivial ?_
  refine xw_G (pc' := 2360) (st' := [.ref 0, .ref 160]) rfl rfl trivial ?_
  refine xw_G (pc' := 2362) (st' := [.int c5, .ref 0, .ref 160]) rfl rfl trivial ?_
  refine xw_G (pc' := 2363) (st' := [.int (1 : Int32), .int c5, .ref 0, .ref 160]) rfl rfl trivial ?_
  refine xw_G (pc' := 2364) (st' := [.int (c5 + (1 : Int32)), .ref 0, .ref 160]) rfl rfl trivial ?_
  refine xg_e hf (fun hg1 hf => ?_)
  refine xg_e hf (fun hg2 hf => ?_)
  refine xa_ld (t := 100) (τ := 0) (v := .int (xm_i h 0 (Int32.toNatClampNeg (c5 + (1 : Int32))))) rfl rfl hg1 rfl hg2 rfl ?_
  refine xw_G (pc' := 2366) (st' := [.ref 316, .int (xm_i h 0 (Int32.toNatClampNeg (c5 + (1 : Int32)))), .ref 160]) rfl rfl trivial ?_
  refine xb_e hf (fun v3 h4 e5 hf => ?_)
  refine xw_S10 (v := some (.int v3)) rfl (Nat.le_of_ble_eq_true rfl) (Nat.le_of_ble_eq_true rfl) (xm_Rn_le (Nat.le_of_ble_eq_true rfl) (t_L_reach  hS e5).1) ?_
  have hS := (t_L_reach  hS e5).2
  show xm_W _ _ _ 2369 _ [.int v3] _
  refine xw_G (pc' := 2371) (ls' := [some (.ref 0), some (.ref 160), some (.ref 302), some (.ref 316), some (.ref 317), some (.int c5), some (.int v3), none, none]) (st' := []) rfl rfl (Nat.le_of_ble_eq_true rfl) ?_
  refine xw_G (pc' := 2372) (st' := [.ref 302]) rfl rfl trivial ?_
  refine xw_G (pc' := 2373) (st' := [.ref 0, .ref 302]) rfl rfl trivial ?_
  refine xw_G (pc' := 2375) (st' := [.int c5, .ref 0, .ref 302]) rfl rfl trivial ?_
  refine xw_G (pc' := 2376) (st' := [.int (1 : Int32), .int c5, .ref 0, .ref 302]) rfl rfl trivial ?_
  refine xw_G (pc' := 2377) (st' := [.int (c5 + (1 : Int32)), .ref 0, .ref 302]) rfl rfl trivial ?_
  refine xg_e hf (fun hg6 hf => ?_)
  refine xg_e hf (fun hg7 hf => ?_)
  refine xa_ld (t := 100) (τ := 0) (v := .int (xm_i h4 0 (Int32.toNatClampNeg (c5 + (1 : Int32))))) rfl rfl hg6 rfl hg7 rfl ?_
  refine xb_e hf (fun v8 h9 e10 hf => ?_)
  refine xw_V (v := some (.int v8)) rfl rfl (xkf (xs_k hS rfl rfl : xm_k h4 302 = (11, 0))) (Nat.le_of_ble_eq_true rfl) (Nat.le_of_ble_eq_true rfl) (xm_Rn_le (Nat.le_of_ble_eq_true rfl) (t_X11_reach  hS e10).1) ?_
  have hS := (t_X11_reach  hS e10).2
  show xm_W _ _ _ 2381 _ [.int v8] _
  refine xw_G (pc' := 2383) (ls' := [some (.ref 0), some (.ref 160), some (.ref 302), some (.ref 316), some (.ref 317), some (.int c5), some (.int v3), some (.int v8), none]) (st' := []) rfl rfl (Nat.le_of_ble_eq_true rfl) ?_
  refine xw_G (pc' := 2384) (st' := [.ref 302]) rfl rfl trivial ?_
  refine xb_e hf (fun v11 h12 e13 hf => ?_)
  refine xw_V (v := some (.int v11)) rfl rfl (xkf (xs_k hS rfl rfl : xm_k h9 302 = (11, 0))) (Nat.le_of_ble_eq_true rfl) (Nat.le_of_ble_eq_true rfl) (xm_Rn_le (Nat.le_of_ble_eq_true rfl) (t_X11_thrown  hS e13).1) ?_
  have hS := (t_X11_thrown  hS e13).2
  show xm_W _ _ _ 2387 _ [.int v11] _
  refine xw_G (pc' := 2389) (st' := [.int v3, .int v11]) rfl rfl trivial ?_
  refine xj_ic_eq rfl hf (fun hc14 hf => ?_) (fun hc14 hf => ?_)
  · refine xw_G (pc' := 2396) (st' := [.int v3]) rfl rfl trivial ?_
    refine xj_if_ne rfl hf (fun hc15 hf => ?_) (fun hc15 hf => ?_)
    · refine xw_G (pc' := 2400) (st' := [.ref 316]) rfl rfl trivial ?_
      refine xw_G (pc' := 2401) (st' := [.int (0 : Int32), .ref 316]) rfl rfl trivial ?_
      refine xa_ld (t := 104) (τ := 4) (v := .long (xm_l h12 316 0)) rfl rfl (xkf (xs_k hS rfl rfl : xm_k h12 316 = (104, 1))) (xkn (xs_k hS rfl rfl : xm_k h12 316 = (104, 1))) (by decide : xin (0 : Int32) 1) rfl ?_
      refine xw_G (pc' := 2404) (st' := [.int v8, .long (xm_l h12 316 0)]) rfl rfl trivial ?_
      refine xw_G (pc' := 2405) (st' := [.long (Int32.toInt64 v8), .long (xm_l h12 316 0)]) rfl rfl trivial ?_
      refine xw_G (pc' := 2406) (st' := [.int (lg_cmp (xm_l h12 316 0) (Int32.toInt64 v8))]) rfl rfl trivial ?_
      refine xj_if_eq rfl hf (fun hc16 hf => ?_) (fun hc16 hf => ?_)
      · refine xw_G (pc' := 2876) (st' := []) rfl rfl trivial ?_
        refine xw_G (pc' := 2879) (ls' := [some (.ref 0), some (.ref 160), some (.ref 302), some (.ref 316), some (.ref 317), some (.int (c5 + (6 : Int32))), some (.int v3), some (.int v8), none]) (st' := []) rfl rfl (Nat.le_of_ble_eq_true rfl) ?_
        refine xw_G (pc' := 28) (st' := []) rfl rfl trivial ?_
        refine xw_M rfl rfl ?_
        exact ih _ _ ⟨_, _, hS⟩ hf
      · refine xw_G (pc' := 2410) (st' := [.int (0 : Int32)]) rfl rfl trivial ?_
        exact xr_i (inj := xji) (φ := fun h => ∃ ρ δ, xS ρ δ h) rfl rfl rfl rfl hf hQ ⟨_, _, hS⟩
    · refine xw_G (pc' := 2876) (st' := []) rfl rfl trivial ?_
      refine xw_G (pc' := 2879) (ls' := [some (.ref 0), some (.ref 160), some (.ref 302), some (.ref 316), some (.ref 317), some (.int (c5 + (6 : Int32))), some (.int v3), some (.int v8), none]) (st' := []) rfl rfl (Nat.le_of_ble_eq_true rfl) ?_
      refine xw_G (pc' := 28) (st' := []) rfl rfl trivial ?_
      refine xw_M rfl rfl ?_
      exact ih _ _ ⟨_, _, hS⟩ hf
  · refine xw_G (pc' := 2393) (st' := [.int (0 : Int32)]) rfl rfl trivial ?_
    exact xr_i (inj := xji) (φ := fun h => ∃ ρ δ, xS ρ δ h) rfl rfl rfl rfl hf hQ ⟨_, _, hS⟩

theorem tc_L_law_39 {N ρ δ : Nat} {Q : xm_O → xm_H → Prop} {w : Int32 × xm_H} (hQ : (∃ ρ δ, xS ρ δ w.2) → Q (xji w.1) w.2) {rec : Int32 → xm_H → Option (Int32 × xm_H)} (ih : ∀ (c5 : Int32) (h : xm_H), (∃ ρ δ, xS ρ δ h) → rec c5 h = some w → xm_W (xm_Rn xX 60) xM_L_law Q 28 [some (.ref 0), some (.ref 160), some (.ref 302), some (.ref 316), some (.ref 317), some (.int c5), none, none, none] [] h) : ∀ (c5 : Int32) (h : xm_H), xS ρ δ h → f_L_law_c39 N ρ δ rec c5 h = some w → xm_W (xm_Rn xX 60) xM_L_law Q 2414 [some (.ref 0), some (.ref 160), some (.ref 302), some (.ref 316), some (.ref 317), some (.int c5), none, none, none] [] h := by
  intro c5 h hS hf
  unfold f_L_law_c39 at hf
  refine xw_G (pc' := 2415) (st' := [.ref 160]) rfl rfl trivial ?_
  refine xw_G (pc' := 2416) (st' := [.ref 0, .ref 160]) rfl rfl trivial ?_
  refine xw_G (pc' := 2418) (st' := [.int c5, .ref 0, .ref 160]) rfl rfl trivial ?_
  refine xw_G (pc' := 2419) (st' := [.int (1 : Int32), .int c5, .ref 0, .ref 160]) rfl rfl trivial ?_
  refine xw_G (pc' := 2420) (st' := [.int (c5 + (1 : Int32)), .ref 0, .ref 160]) rfl rfl trivial ?_
  refine xg_e hf (fun hg1 hf => ?_)
  refine xg_e hf (fun hg2 hf => ?_)
  refine xa_ld (t := 100) (τ := 0) (v := .int (xm_i h 0 (Int32.toNatClampNeg (c5 + (1 : Int32))))) rfl rfl hg1 rfl hg2 rfl ?_
  refine xw_G (pc' := 2423) (st' := [.ref 317, .int (xm_i h 0 (Int32.toNatClampNeg (c5 + (1 : Int32)))), .ref 160]) rfl rfl trivial ?_
  refine xb_e hf (fun v3 h4 e5 hf => ?_)
  refine xw_S10 (v := some (.int v3)) rfl (Nat.le_of_ble_eq_true rfl) (Nat.le_of_ble_eq_true rfl) (xm_Rn_le (Nat.le_of_ble_eq_true rfl) (t_L_frequency  hS e5).1) ?_
  have hS := (t_L_frequency  hS e5).2
  show xm_W _ _ _ 2426 _ [.int v3] _
  refine xw_G (pc' := 2428) (ls' := [some (.ref 0), some (.ref 160), some (.ref 302), some (.ref 316), some (.ref 317), some (.int c5), some (.int v3), none, none]) (st' := []) rfl rfl (Nat.le_of_ble_eq_true rfl) ?_
  refine xw_G (pc' := 2429) (st' := [.ref 302]) rfl rfl trivial ?_
  refine xw_G (pc' := 2430) (st' := [.ref 0, .ref 302]) rfl rfl trivial ?_
  refine xw_G (pc' := 2432) (st' := [.int c5, .ref 0, .ref 302]) rfl rfl trivial ?_
  refine xw_G (pc' := 2433) (st' := [.int (1 : Int32), .int c5, .ref 0, .ref 302]) rfl rfl trivial ?_
  refine xw_G (pc' := 2434) (st' := [.int (c5 + (1 : Int32)), .ref 0, .ref 302]) rfl rfl trivial ?_
  refine xg_e hf (fun hg6 hf => ?_)
  refine xg_e hf (fun hg7 hf => ?_)
  refine xa_ld (t := 100) (τ := 0) (v := .int (xm_i h4 0 (Int32.toNatClampNeg (c5 + (1 : Int32))))) rfl rfl hg6 rfl hg7 rfl ?_
  refine xb_e hf (fun v8 h9 e10 hf => ?_)
  refine xw_V (v := some (.double v8)) rfl rfl (xkf (xs_k hS rfl rfl : xm_k h4 302 = (11, 0))) (Nat.le_of_ble_eq_true rfl) (Nat.le_of_ble_eq_true rfl) (xm_Rn_le (Nat.le_of_ble_eq_true rfl) (t_X11_frequency  hS e10).1) ?_
  have hS := (t_X11_frequency  hS e10).2
  show xm_W _ _ _ 2438 _ [.double v8] _
  refine xw_G (pc' := 2440) (ls' := [some (.ref 0), some (.ref 160), some (.ref 302), some (.ref 316), some (.ref 317), some (.int c5), some (.int v3), some (.double v8), none]) (st' := []) rfl rfl (Nat.le_of_ble_eq_true rfl) ?_
  refine xw_G (pc' := 2441) (st' := [.ref 302]) rfl rfl trivial ?_
  refine xb_e hf (fun v11 h12 e13 hf => ?_)
  refine xw_V (v := some (.int v11)) rfl rfl (xkf (xs_k hS rfl rfl : xm_k h9 302 = (11, 0))) (Nat.le_of_ble_eq_true rfl) (Nat.le_of_ble_eq_true rfl) (xm_Rn_le (Nat.le_of_ble_eq_true rfl) (t_X11_thrown  hS e13).1) ?_
  have hS := (t_X11_thrown  hS e13).2
  show xm_W _ _ _ 2444 _ [.int v11] _
  refine xw_G (pc' := 2446) (st' := [.int v3, .int v11]) rfl rfl trivial ?_
  refine xj_ic_eq rfl hf (fun hc14 hf => ?_) (fun hc14 hf => ?_)
  · refine xw_G (pc' := 2453) (st' := [.int v3]) rfl rfl trivial ?_
    refine xj_if_ne rfl hf (fun hc15 hf => ?_) (fun hc15 hf => ?_)
    · refine xw_G (pc' := 2458) (st' := [.ref 317]) rfl rfl trivial ?_
      refine xw_G (pc' := 2459) (st' := [.int (0 : Int32), .ref 317]) rfl rfl trivial ?_
      refine xa_ld (t := 105) (τ := 5) (v := .double (xm_d h12 317 0)) rfl rfl (xkf (xs_k hS rfl rfl : xm_k h12 317 = (105, 1))) (xkn (xs_k hS rfl rfl : xm_k h12 317 = (105, 1))) (by decide : xin (0 : Int32) 1) rfl ?_
      refine xw_G (pc' := 2462) (st' := [.double v8, .double (xm_d h12 317 0)]) rfl rfl trivial ?_
      refine xw_G (pc' := 2463) (st' := [.int (Op.cmpValue (FP.dcmp (xm_d h12 317 0) v8) .l)]) rfl rfl trivial ?_
      refine xj_if_eq rfl hf (fun hc16 hf => ?_) (fun hc16 hf => ?_)
      · refine xw_G (pc' := 2876) (st' := []) rfl rfl trivial ?_
        refine xw_G (pc' := 2879) (ls' := [some (.ref 0), some (.ref 160), some (.ref 302), some (.ref 316), some (.ref 317), some (.int (c5 + (6 : Int32))), some (.int v3), some (.double v8), none]) (st' := []) rfl rfl (Nat.le_of_ble_eq_true rfl) ?_
        refine xw_G (pc' := 28) (st' := []) rfl rfl trivial ?_
        refine xw_M rfl rfl ?_
        exact ih _ _ ⟨_, _, hS⟩ hf
      · refine xw_G (pc' := 2468) (st' := [.ref 317]) rfl rfl trivial ?_
        refine xw_G (pc' := 2469) (st' := [.int (0 : Int32), .ref 317]) rfl rfl trivial ?_
        refine xa_ld (t := 105) (τ := 5) (v := .double (xm_d h12 317 0)) rfl rfl (xkf (xs_k hS rfl rfl : xm_k h12 317 = (105, 1))) (xkn (xs_k hS rfl rfl : xm_k h12 317 = (105, 1))) (by decide : xin (0 : Int32) 1) rfl ?_
        refine xw_G (pc' := 2472) (st' := [.ref 317, .double (xm_d h12 317 0)]) rfl rfl trivial ?_
        refine xw_G (pc' := 2473) (st' := [.int (0 : Int32), .ref 317, .double (xm_d h12 317 0)]) rfl rfl trivial ?_
        refine xa_ld (t := 105) (τ := 5) (v := .double (xm_d h12 317 0)) rfl rfl (xkf (xs_k hS rfl rfl : xm_k h12 317 = (105, 1))) (xkn (xs_k hS rfl rfl : xm_k h12 317 = (105, 1))) (by decide : xin (0 : Int32) 1) rfl ?_
        refine xw_G (pc' := 2475) (st' := [.int (Op.cmpValue (FP.dcmp (xm_d h12 317 0) (xm_d h12 317 0)) .l)]) rfl rfl trivial ?_
        refine xj_if_eq rfl hf (fun hc17 hf => ?_) (fun hc17 hf => ?_)
        · refine xw_G (pc' := 2487) (st' := [.int (0 : Int32)]) rfl rfl trivial ?_
          exact xr_i (inj := xji) (φ := fun h => ∃ ρ δ, xS ρ δ h) rfl rfl rfl rfl hf hQ ⟨_, _, hS⟩
        · refine xw_G (pc' := 2480) (st' := [.double v8]) rfl rfl trivial ?_
          refine xw_G (pc' := 2482) (st' := [.double v8, .double v8]) rfl rfl trivial ?_
          refine xw_G (pc' := 2483) (st' := [.int (Op.cmpValue (FP.dcmp v8 v8) .l)]) rfl rfl trivial ?_
          refine xj_if_ne rfl hf (fun hc18 hf => ?_) (fun hc18 hf => ?_)
          · refine xw_G (pc' := 2487) (st' := [.int (0 : Int32)]) rfl rfl trivial ?_
            exact xr_i (inj := xji) (φ := fun h => ∃ ρ δ, xS ρ δ h) rfl rfl rfl rfl hf hQ ⟨_, _, hS⟩
          · refine xw_G (pc' := 2876) (st' := []) rfl rfl trivial ?_
            refine xw_G (pc' := 2879) (ls' := [some (.ref 0), some (.ref 160), some (.ref 302), some (.ref 316), some (.ref 317), some (.int (c5 + (6 : Int32))), some (.int v3), some (.double v8), none]) (st' := []) rfl rfl (Nat.le_of_ble_eq_true rfl) ?_
            refine xw_G (pc' := 28) (st' := []) rfl rfl trivial ?_
            refine xw_M rfl rfl ?_
            exact ih _ _ ⟨_, _, hS⟩ hf
    · refine xw_G (pc' := 2876) (st' := []) rfl rfl trivial ?_
      refine xw_G (pc' := 2879) (ls' := [some (.ref 0), some (.ref 160), some (.ref 302), some (.ref 316), some (.ref 317), some (.int (c5 + (6 : Int32))), some (.int v3), some (.double v8), none]) (st' := []) rfl rfl (Nat.le_of_ble_eq_true rfl) ?_
      refine xw_G (pc' := 28) (st' := []) rfl rfl trivial ?_
      refine xw_M rfl rfl ?_
      exact ih _ _ ⟨_, _, hS⟩ hf
  · refine xw_G (pc' := 2450) (st' := [.int (0 : Int32)]) rfl rfl trivial ?_
    exact xr_i (inj := xji) (φ := fun h => ∃ ρ δ, xS ρ δ h) rfl rfl rfl rfl hf hQ ⟨_, _, hS⟩

theorem tc_L_law_40 {N ρ δ : Nat} {Q : xm_O → xm_H → Prop} {w : Int32 × xm_H} (hQ : (∃ ρ δ, xS ρ δ w.2) → Q (xji w.1) w.2) {rec : Int32 → xm_H → Option (Int32 × xm_H)} (ih : ∀ (c5 : Int32) (h : xm_H), (∃ ρ δ, xS ρ δ h) → rec c5 h = some w → xm_W (xm_Rn xX 60) xM_L_law Q 28 [some (.ref 0), some (.ref 160), some (.ref 302), some (.ref 316), some (.ref 317), some (.int c5), none, none, none] [] h) : ∀ (c5 : Int32) (h : xm_H), xS ρ δ h → f_L_law_c40 N ρ δ rec c5 h = some w → xm_W (xm_Rn xX 60) xM_L_law Q 2491 [some (.ref 0), some (.ref 160), some (.ref 302), some (.ref 316), some (.ref 317), some (.int c5), none, none, none] [] h := by
  intro c5 h hS hf
  unfold f_L_law_c40 at hf
  refine xw_G (pc' := 2492) (st' := [.ref 160]) rfl rfl trivial ?_
  refine xw_G (pc' := 2493) (st' := [.ref 0, .ref 160]) rfl rfl trivial ?_
  refine xw_G (pc' := 2495) (st' := [.int c5, .ref 0, .ref 160]) rfl rfl trivial ?_
  refine xw_G (pc' := 2496) (st' := [.int (1 : Int32), .int c5, .ref 0, .ref 160]) rfl rfl trivial ?_
  refine xw_G (pc' := 2497) (st' := [.int (c5 + (1 : Int32)), .ref 0, .ref 160]) rfl rfl trivial ?_
  refine xg_e hf (fun hg1 hf => ?_)
  refine xg_e hf (fun hg2 hf => ?_)
  refine xa_ld (t := 100) (τ := 0) (v := .int (xm_i h 0 (Int32.toNatClampNeg (c5 + (1 : Int32))))) rfl rfl hg1 rfl hg2 rfl ?_
  refine xw_G (pc' := 2499) (st' := [.ref 0, .int (xm_i h 0 (Int32.toNatClampNeg (c5 + (1 : Int32)))), .ref 160]) rfl rfl trivial ?_
  refine xw_G (pc' := 2501) (st' := [.int c5, .ref 0, .int (xm_i h 0 (Int32.toNatClampNeg (c5 + (1 : Int32)))), .ref 160]) rfl rfl trivial ?_
  refine xw_G (pc' := 2502) (st' := [.int (2 : Int32), .int c5, .ref 0, .int (xm_i h 0 (Int32.toNatClampNeg (c5 + (1 : Int32)))), .ref 160]) rfl rfl trivial ?_
  refine xw_G (pc' := 2503) (st' := [.int (c5 + (2 : Int32)), .ref 0, .int (xm_i h 0 (Int32.toNatClampNeg (c5 + (1 : Int32)))), .ref 160]) rfl rfl trivial ?_
  refine xg_e hf (fun hg3 hf => ?_)
  refine xa_ld (t := 100) (τ := 0) (v := .int (xm_i h 0 (Int32.toNatClampNeg (c5 + (2 : Int32))))) rfl rfl hg1 rfl hg3 rfl ?_
  refine xw_G (pc' := 2505) (st' := [.ref 316, .int (xm_i h 0 (Int32.toNatClampNeg (c5 + (2 : Int32)))), .int (xm_i h 0 (Int32.toNatClampNeg (c5 + (1 : Int32)))), .ref 160]) rfl rfl trivial ?_
  refine xb_e hf (fun v4 h5 e6 hf => ?_)
  refine xw_S10 (v := some (.int v4)) rfl (Nat.le_of_ble_eq_true rfl) (Nat.le_of_ble_eq_true rfl) (xm_Rn_le (Nat.le_of_ble_eq_true rfl) (t_L_recent  hS e6).1) ?_
  have hS := (t_L_recent  hS e6).2
  show xm_W _ _ _ 2508 _ [.int v4] _
  refine xw_G (pc' := 2510) (ls' := [some (.ref 0), some (.ref 160), some (.ref 302), some (.ref 316), some (.ref 317), some (.int c5), some (.int v4), none, none]) (st' := []) rfl rfl (Nat.le_of_ble_eq_true rfl) ?_
  refine xw_G (pc' := 2511) (st' := [.ref 302]) rfl rfl trivial ?_
  refine xw_G (pc' := 2512) (st' := [.ref 0, .ref 302]) rfl rfl trivial ?_
  refine xw_G (pc' := 2514) (st' := [.int c5, .ref 0, .ref 302]) rfl rfl trivial ?_
  refine xw_G (pc' := 2515) (st' := [.int (1 : Int32), .int c5, .ref 0, .ref 302]) rfl rfl trivial ?_
  refine xw_G (pc' := 2516) (st' := [.int (c5 + (1 : Int32)), .ref 0, .ref 302]) rfl rfl trivial ?_
  refine xg_e hf (fun hg7 hf => ?_)
  refine xg_e hf (fun hg8 hf => ?_)
  refine xa_ld (t := 100) (τ := 0) (v := .int (xm_i h5 0 (Int32.toNatClampNeg (c5 + (1 : Int32))))) rfl rfl hg7 rfl hg8 rfl ?_
  refine xw_G (pc' := 2518) (st' := [.ref 0, .int (xm_i h5 0 (Int32.toNatClampNeg (c5 + (1 : Int32)))), .ref 302]) rfl rfl trivial ?_
  refine xw_G (pc' := 2520) (st' := [.int c5, .ref 0, .int (xm_i h5 0 (Int32.toNatClampNeg (c5 + (1 : Int32)))), .ref 302]) rfl rfl trivial ?_
  refine xw_G (pc' := 2521) (st' := [.int (2 : Int32), .int c5, .ref 0, .int (xm_i h5 0 (Int32.toNatClampNeg (c5 + (1 : Int32)))), .ref 302]) rfl rfl trivial ?_
  refine xw_G (pc' := 2522) (st' := [.int (c5 + (2 : Int32)), .ref 0, .int (xm_i h5 0 (Int32.toNatClampNeg (c5 + (1 : Int32)))), .ref 302]) rfl rfl trivial ?_
  refine xg_e hf (fun hg9 hf => ?_)
  refine xa_ld (t := 100) (τ := 0) (v := .int (xm_i h5 0 (Int32.toNatClampNeg (c5 + (2 : Int32))))) rfl rfl hg7 rfl hg9 rfl ?_
  refine xb_e hf (fun v10 h11 e12 hf => ?_)
  refine xw_V (v := some (.int v10)) rfl rfl (xkf (xs_k hS rfl rfl : xm_k h5 302 = (11, 0))) (Nat.le_of_ble_eq_true rfl) (Nat.le_of_ble_eq_true rfl) (xm_Rn_le (Nat.le_of_ble_eq_true rfl) (t_X11_recent  hS e12).1) ?_
  have hS := (t_X11_recent  hS e12).2
  show xm_W _ _ _ 2526 _ [.int v10] _
  refine xw_G (pc' := 2528) (ls' := [some (.ref 0), some (.ref 160), some (.ref 302), some (.ref 316), some (.ref 317), some (.int c5), some (.int v4), some (.int v10), none]) (st' := []) rfl rfl (Nat.le_of_ble_eq_true rfl) ?_
  refine xw_G (pc' := 2529) (st' := [.ref 302]) rfl rfl trivial ?_
  refine xb_e hf (fun v13 h14 e15 hf => ?_)
  refine xw_V (v := some (.int v13)) rfl rfl (xkf (xs_k hS rfl rfl : xm_k h11 302 = (11, 0))) (Nat.le_of_ble_eq_true rfl) (Nat.le_of_ble_eq_true rfl) (xm_Rn_le (Nat.le_of_ble_eq_true rfl) (t_X11_thrown  hS e15).1) ?_
  have hS := (t_X11_thrown  hS e15).2
  show xm_W _ _ _ 2532 _ [.int v13] _
  refine xw_G (pc' := 2534) (st' := [.int v4, .int v13]) rfl rfl trivial ?_
  refine xj_ic_eq rfl hf (fun hc16 hf => ?_) (fun hc16 hf => ?_)
  · refine xw_G (pc' := 2541) (st' := [.int v4]) rfl rfl trivial ?_
    refine xj_if_ne rfl hf (fun hc17 hf => ?_) (fun hc17 hf => ?_)
    · refine xw_G (pc' := 2545) (st' := [.ref 316]) rfl rfl trivial ?_
      refine xw_G (pc' := 2546) (st' := [.int (0 : Int32), .ref 316]) rfl rfl trivial ?_
      refine xa_ld (t := 104) (τ := 4) (v := .long (xm_l h14 316 0)) rfl rfl (xkf (xs_k hS rfl rfl : xm_k h14 316 = (104, 1))) (xkn (xs_k hS rfl rfl : xm_k h14 316 = (104, 1))) (by decide : xin (0 : Int32) 1) rfl ?_
      refine xw_G (pc' := 2549) (st' := [.int v10, .long (xm_l h14 316 0)]) rfl rfl trivial ?_
      refine xw_G (pc' := 2550) (st' := [.long (Int32.toInt64 v10), .long (xm_l h14 316 0)]) rfl rfl trivial ?_
      refine xw_G (pc' := 2551) (st' := [.int (lg_cmp (xm_l h14 316 0) (Int32.toInt64 v10))]) rfl rfl trivial ?_
      refine xj_if_eq rfl hf (fun hc18 hf => ?_) (fun hc18 hf => ?_)
      · refine xw_G (pc' := 2876) (st' := []) rfl rfl trivial ?_
        refine xw_G (pc' := 2879) (ls' := [some (.ref 0), some (.ref 160), some (.ref 302), some (.ref 316), some (.ref 317), some (.int (c5 + (6 : Int32))), some (.int v4), some (.int v10), none]) (st' := []) rfl rfl (Nat.le_of_ble_eq_true rfl) ?_
        refine xw_G (pc' := 28) (st' := []) rfl rfl trivial ?_
        refine xw_M rfl rfl ?_
        exact ih _ _ ⟨_, _, hS⟩ hf
      · refine xw_G (pc' := 2555) (st' := [.int (0 : Int32)]) rfl rfl trivial ?_
        exact xr_i (inj := xji) (φ := fun h => ∃ ρ δ, xS ρ δ h) rfl rfl rfl rfl hf hQ ⟨_, _, hS⟩
    · refine xw_G (pc' := 2876) (st' := []) rfl rfl trivial ?_
      refine xw_G (pc' := 2879) (ls' := [some (.ref 0), some (.ref 160), some (.ref 302), some (.ref 316), some (.ref 317), some (.int (c5 + (6 : Int32))), some (.int v4), some (.int v10), none]) (st' := []) rfl rfl (Nat.le_of_ble_eq_true rfl) ?_
      refine xw_G (pc' := 28) (st' := []) rfl rfl trivial ?_
      refine xw_M rfl rfl ?_
      exact ih _ _ ⟨_, _, hS⟩ hf
  · refine xw_G (pc' := 2538) (st' := [.int (0 : Int32)]) rfl rfl trivial ?_
    exact xr_i (inj := xji) (φ := fun h => ∃ ρ δ, xS ρ δ h) rfl rfl rfl rfl hf hQ ⟨_, _, hS⟩

theorem tc_L_law_41 {N ρ δ : Nat} {Q : xm_O → xm_H → Prop} {w : Int32 × xm_H} (hQ : (∃ ρ δ, xS ρ δ w.2) → Q (xji w.1) w.2) {rec : Int32 → xm_H → Option (Int32 × xm_H)} (ih : ∀ (c5 : Int32) (h : xm_H), (∃ ρ δ, xS ρ δ h) → rec c5 h = some w → xm_W (xm_Rn xX 60) xM_L_law Q 28 [some (.ref 0), some (.ref 160), some (.ref 302), some (.ref 316), some (.ref 317), some (.int c5), none, none, none] [] h) : ∀ (c5 : Int32) (h : xm_H), xS ρ δ h → f_L_law_c41 N ρ δ rec c5 h = some w → xm_W (xm_Rn xX 60) xM_L_law Q 2559 [some (.ref 0), some (.ref 160), some (.ref 302), some (.ref 316), some (.ref 317), some (.int c5), none, none, none] [] h := by
  intro c5 h hS hf
  unfold f_L_law_c41 at hf
  refine xw_G (pc' := 2560) (st' := [.ref 160]) rfl rfl trivial ?_
  refine xb_e hf (fun v1 h2 e3 hf => ?_)
  refine xw_V (v := some (.int v1)) rfl rfl (xkf (xs_k hS rfl rfl : xm_k h 160 = (0, 0))) (Nat.le_of_ble_eq_true rfl) (Nat.le_of_ble_eq_true rfl) (xm_Rn_le (Nat.le_of_ble_eq_true rfl) (t_X10_topUser  hS e3).1) ?_
  have hS := (t_X10_topUser  hS e3).2
  show xm_W _ _ _ 2563 _ [.int v1] _
  refine xw_G (pc' := 2564) (st' := [.ref 302, .int v1]) rfl rfl trivial ?_
  refine xb_e hf (fun v4 h5 e6 hf => ?_)
  refine xw_V (v := some (.int v4)) rfl rfl (xkf (xs_k hS rfl rfl : xm_k h2 302 = (11, 0))) (Nat.le_of_ble_eq_true rfl) (Nat.le_of_ble_eq_true rfl) (xm_Rn_le (Nat.le_of_ble_eq_true rfl) (t_X11_topUser  hS e6).1) ?_
  have hS := (t_X11_topUser  hS e6).2
  show xm_W _ _ _ 2567 _ [.int v4, .int v1] _
  refine xj_ic_eq rfl hf (fun hc7 hf => ?_) (fun hc7 hf => ?_)
  · refine xw_G (pc' := 2879) (ls' := [some (.ref 0), some (.ref 160), some (.ref 302), some (.ref 316), some (.ref 317), some (.int (c5 + (6 : Int32))), none, none, none]) (st' := []) rfl rfl (Nat.le_of_ble_eq_true rfl) ?_
    refine xw_G (pc' := 28) (st' := []) rfl rfl trivial ?_
    refine xw_M rfl rfl ?_
    exact ih _ _ ⟨_, _, hS⟩ hf
  · refine xw_G (pc' := 2571) (st' := [.int (0 : Int32)]) rfl rfl trivial ?_
    exact xr_i (inj := xji) (φ := fun h => ∃ ρ δ, xS ρ δ h) rfl rfl rfl rfl hf hQ ⟨_, _, hS⟩

theorem tc_L_law_42 {N ρ δ : Nat} {Q : xm_O → xm_H → Prop} {w : Int32 × xm_H} (hQ : (∃ ρ δ, xS ρ δ w.2) → Q (xji w.1) w.2) {rec : Int32 → xm_H → Option (Int32 × xm_H)} (ih : ∀ (c5 : Int32) (h : xm_H), (∃ ρ δ, xS ρ δ h) → rec c5 h = some w → xm_W (xm_Rn xX 60) xM_L_law Q 28 [some (.ref 0), some (.ref 160), some (.ref 302), some (.ref 316), some (.ref 317), some (.int c5), none, none, none] [] h) : ∀ (c5 : Int32) (h : xm_H), xS ρ δ h → f_L_law_c42 N ρ δ rec c5 h = some w → xm_W (xm_Rn xX 60) xM_L_law Q 2572 [some (.ref 0), some (.ref 160), some (.ref 302), some (.ref 316), some (.ref 317), some (.int c5), none, none, none] [] h := by
  intro c5 h hS hf
  unfold f_L_law_c42 at hf
  refine xw_G (pc' := 2573) (st' := [.ref 160]) rfl rfl trivial ?_
  refine xw_G (pc' := 2574) (st' := [.ref 0, .ref 160]) rfl rfl trivial ?_
  refine xw_G (pc' := 2576) (st' := [.int c5, .ref 0, .ref 160]) rfl rfl trivial ?_
  refine xw_G (pc' := 2577) (st' := [.int (1 : Int32), .int c5, .ref 0, .ref 160]) rfl rfl trivial ?_
  refine xw_G (pc' := 2578) (st' := [.int (c5 + (1 : Int32)), .ref 0, .ref 160]) rfl rfl trivial ?_
  refine xg_e hf (fun hg1 hf => ?_)
  refine xg_e hf (fun hg2 hf => ?_)
  refine xa_ld (t := 100) (τ := 0) (v := .int (xm_i h 0 (Int32.toNatClampNeg (c5 + (1 : Int32))))) rfl rfl hg1 rfl hg2 rfl ?_
  refine xw_G (pc' := 2581) (st' := [.ref 317, .int (xm_i h 0 (Int32.toNatClampNeg (c5 + (1 : Int32)))), .ref 160]) rfl rfl trivial ?_
  refine xb_e hf (fun v3 h4 e5 hf => ?_)
  refine xw_S10 (v := some (.int v3)) rfl (Nat.le_of_ble_eq_true rfl) (Nat.le_of_ble_eq_true rfl) (xm_Rn_le (Nat.le_of_ble_eq_true rfl) (t_L_meanPrice  hS e5).1) ?_
  have hS := (t_L_meanPrice  hS e5).2
  show xm_W _ _ _ 2584 _ [.int v3] _
  refine xw_G (pc' := 2586) (ls' := [some (.ref 0), some (.ref 160), some (.ref 302), some (.ref 316), some (.ref 317), some (.int c5), some (.int v3), none, none]) (st' := []) rfl rfl (Nat.le_of_ble_eq_true rfl) ?_
  refine xw_G (pc' := 2587) (st' := [.ref 302]) rfl rfl trivial ?_
  refine xw_G (pc' := 2588) (st' := [.ref 0, .ref 302]) rfl rfl trivial ?_
  refine xw_G (pc' := 2590) (st' := [.int c5, .ref 0, .ref 302]) rfl rfl trivial ?_
  refine xw_G (pc' := 2591) (st' := [.int (1 : Int32), .int c5, .ref 0, .ref 302]) rfl rfl trivial ?_
  refine xw_G (pc' := 2592) (st' := [.int (c5 + (1 : Int32)), .ref 0, .ref 302]) rfl rfl trivial ?_
  refine xg_e hf (fun hg6 hf => ?_)
  refine xg_e hf (fun hg7 hf => ?_)
  refine xa_ld (t := 100) (τ := 0) (v := .int (xm_i h4 0 (Int32.toNatClampNeg (c5 + (1 : Int32))))) rfl rfl hg6 rfl hg7 rfl ?_
  refine xb_e hf (fun v8 h9 e10 hf => ?_)
  refine xw_V (v := some (.double v8)) rfl rfl (xkf (xs_k hS rfl rfl : xm_k h4 302 = (11, 0))) (Nat.le_of_ble_eq_true rfl) (Nat.le_of_ble_eq_true rfl) (xm_Rn_le (Nat.le_of_ble_eq_true rfl) (t_X11_meanPrice  hS e10).1) ?_
  have hS := (t_X11_meanPrice  hS e10).2
  show xm_W _ _ _ 2596 _ [.double v8] _
  refine xw_G (pc' := 2598) (ls' := [some (.ref 0), some (.ref 160), some (.ref 302), some (.ref 316), some (.ref 317), some (.int c5), some (.int v3), some (.double v8), none]) (st' := []) rfl rfl (Nat.le_of_ble_eq_true rfl) ?_
  refine xw_G (pc' := 2599) (st' := [.ref 302]) rfl rfl trivial ?_
  refine xb_e hf (fun v11 h12 e13 hf => ?_)
  refine xw_V (v := some (.int v11)) rfl rfl (xkf (xs_k hS rfl rfl : xm_k h9 302 = (11, 0))) (Nat.le_of_ble_eq_true rfl) (Nat.le_of_ble_eq_true rfl) (xm_Rn_le (Nat.le_of_ble_eq_true rfl) (t_X11_thrown  hS e13).1) ?_
  have hS := (t_X11_thrown  hS e13).2
  show xm_W _ _ _ 2602 _ [.int v11] _
  refine xw_G (pc' := 2604) (st' := [.int v3, .int v11]) rfl rfl trivial ?_
  refine xj_ic_eq rfl hf (fun hc14 hf => ?_) (fun hc14 hf => ?_)
  · refine xw_G (pc' := 2611) (st' := [.int v3]) rfl rfl trivial ?_
    refine xj_if_ne rfl hf (fun hc15 hf => ?_) (fun hc15 hf => ?_)
    · refine xw_G (pc' := 2616) (st' := [.ref 317]) rfl rfl trivial ?_
      refine xw_G (pc' := 2617) (st' := [.int (0 : Int32), .ref 317]) rfl rfl trivial ?_
      refine xa_ld (t := 105) (τ := 5) (v := .double (xm_d h12 317 0)) rfl rfl (xkf (xs_k hS rfl rfl : xm_k h12 317 = (105, 1))) (xkn (xs_k hS rfl rfl : xm_k h12 317 = (105, 1))) (by decide : xin (0 : Int32) 1) rfl ?_
      refine xw_G (pc' := 2620) (st' := [.double v8, .double (xm_d h12 317 0)]) rfl rfl trivial ?_
      refine xw_G (pc' := 2621) (st' := [.int (Op.cmpValue (FP.dcmp (xm_d h12 317 0) v8) .l)]) rfl rfl trivial ?_
      refine xj_if_eq rfl hf (fun hc16 hf => ?_) (fun hc16 hf => ?_)
      · refine xw_G (pc' := 2876) (st' := []) rfl rfl trivial ?_
        refine xw_G (pc' := 2879) (ls' := [some (.ref 0), some (.ref 160), some (.ref 302), some (.ref 316), some (.ref 317), some (.int (c5 + (6 : Int32))), some (.int v3), some (.double v8), none]) (st' := []) rfl rfl (Nat.le_of_ble_eq_true rfl) ?_
        refine xw_G (pc' := 28) (st' := []) rfl rfl trivial ?_
        refine xw_M rfl rfl ?_
        exact ih _ _ ⟨_, _, hS⟩ hf
      · refine xw_G (pc' := 2626) (st' := [.ref 317]) rfl rfl trivial ?_
        refine xw_G (pc' := 2627) (st' := [.int (0 : Int32), .ref 317]) rfl rfl trivial ?_
        refine xa_ld (t := 105) (τ := 5) (v := .double (xm_d h12 317 0)) rfl rfl (xkf (xs_k hS rfl rfl : xm_k h12 317 = (105, 1))) (xkn (xs_k hS rfl rfl : xm_k h12 317 = (105, 1))) (by decide : xin (0 : Int32) 1) rfl ?_
        refine xw_G (pc' := 2630) (st' := [.ref 317, .double (xm_d h12 317 0)]) rfl rfl trivial ?_
        refine xw_G (pc' := 2631) (st' := [.int (0 : Int32), .ref 317, .double (xm_d h12 317 0)]) rfl rfl trivial ?_
        refine xa_ld (t := 105) (τ := 5) (v := .double (xm_d h12 317 0)) rfl rfl (xkf (xs_k hS rfl rfl : xm_k h12 317 = (105, 1))) (xkn (xs_k hS rfl rfl : xm_k h12 317 = (105, 1))) (by decide : xin (0 : Int32) 1) rfl ?_
        refine xw_G (pc' := 2633) (st' := [.int (Op.cmpValue (FP.dcmp (xm_d h12 317 0) (xm_d h12 317 0)) .l)]) rfl rfl trivial ?_
        refine xj_if_eq rfl hf (fun hc17 hf => ?_) (fun hc17 hf => ?_)
        · refine xw_G (pc' := 2645) (st' := [.int (0 : Int32)]) rfl rfl trivial ?_
          exact xr_i (inj := xji) (φ := fun h => ∃ ρ δ, xS ρ δ h) rfl rfl rfl rfl hf hQ ⟨_, _, hS⟩
        · refine xw_G (pc' := 2638) (st' := [.double v8]) rfl rfl trivial ?_
          refine xw_G (pc' := 2640) (st' := [.double v8, .double v8]) rfl rfl trivial ?_
          refine xw_G (pc' := 2641) (st' := [.int (Op.cmpValue (FP.dcmp v8 v8) .l)]) rfl rfl trivial ?_
          refine xj_if_ne rfl hf (fun hc18 hf => ?_) (fun hc18 hf => ?_)
          · refine xw_G (pc' := 2645) (st' := [.int (0 : Int32)]) rfl rfl trivial ?_
            exact xr_i (inj := xji) (φ := fun h => ∃ ρ δ, xS ρ δ h) rfl rfl rfl rfl hf hQ ⟨_, _, hS⟩
          · refine xw_G (pc' := 2876) (st' := []) rfl rfl trivial ?_
            refine xw_G (pc' := 2879) (ls' := [some (.ref 0), some (.ref 160), some (.ref 302), some (.ref 316), some (.ref 317), some (.int (c5 + (6 : Int32))), some (.int v3), some (.double v8), none]) (st' := []) rfl rfl (Nat.le_of_ble_eq_true rfl) ?_
            refine xw_G (pc' := 28) (st' := []) rfl rfl trivial ?_
            refine xw_M rfl rfl ?_
            exact ih _ _ ⟨_, _, hS⟩ hf
    · refine xw_G (pc' := 2876) (st' := []) rfl rfl trivial ?_
      refine xw_G (pc' := 2879) (ls' := [some (.ref 0), some (.ref 160), some (.ref 302), some (.ref 316), some (.ref 317), some (.int (c5 + (6 : Int32))), some (.int v3), some (.double v8), none]) (st' := []) rfl rfl (Nat.le_of_ble_eq_true rfl) ?_
      refine xw_G (pc' := 28) (st' := []) rfl rfl trivial ?_
      refine xw_M rfl rfl ?_
      exact ih _ _ ⟨_, _, hS⟩ hf
  · refine xw_G (pc' := 2608) (st' := [.int (0 : Int32)]) rfl rfl trivial ?_
    exact xr_i (inj := xji) (φ := fun h => ∃ ρ δ, xS ρ δ h) rfl rfl rfl rfl hf hQ ⟨_, _, hS⟩

theorem tc_L_law_43 {N ρ δ : Nat} {Q : xm_O → xm_H → Prop} {w : Int32 × xm_H} (hQ : (∃ ρ δ, xS ρ δ w.2) → Q (xji w.1) w.2) {rec : Int32 → xm_H → Option (Int32 × xm_H)} (ih : ∀ (c5 : Int32) (h : xm_H), (∃ ρ δ, xS ρ δ h) → rec c5 h = some w → xm_W (xm_Rn xX 60) xM_L_law Q 28 [some (.ref 0), some (.ref 160), some (.ref 302), some (.ref 316), some (.ref 317), some (.int c5), none, none, none] [] h) : ∀ (c5 : Int32) (h : xm_H), xS ρ δ h → f_L_law_c43 N ρ δ rec c5 h = some w → xm_W (xm_Rn xX 60) xM_L_law Q 2649 [some (.ref 0), some (.ref 160), some (.ref 302), some (.ref 316), some (.ref 317), some (.int c5), none, none, none] [] h := by
  intro c5 h hS hf
  unfold f_L_law_c43 at hf
  refine xw_G (pc' := 2650) (st' := [.ref 160]) rfl rfl trivial ?_
  refine xb_e hf (fun v1 h2 e3 hf => ?_)
  refine xw_V (v := some (.int v1)) rfl rfl (xkf (xs_k hS rfl rfl : xm_k h 160 = (0, 0))) (Nat.le_of_ble_eq_true rfl) (Nat.le_of_ble_eq_true rfl) (xm_Rn_le (Nat.le_of_ble_eq_true rfl) (t_X10_conversions  hS e3).1) ?_
  have hS := (t_X10_conversions  hS e3).2
  show xm_W _ _ _ 2653 _ [.int v1] _
  refine xw_G (pc' := 2654) (st' := [.ref 302, .int v1]) rfl rfl trivial ?_
  refine xb_e hf (fun v4 h5 e6 hf => ?_)
  refine xw_V (v := some (.int v4)) rfl rfl (xkf (xs_k hS rfl rfl : xm_k h2 302 = (11, 0))) (Nat.le_of_ble_eq_true rfl) (Nat.le_of_ble_eq_true rfl) (xm_Rn_le (Nat.le_of_ble_eq_true rfl) (t_X11_conversions  hS e6).1) ?_
  have hS := (t_X11_conversions  hS e6).2
  show xm_W _ _ _ 2657 _ [.int v4, .int v1] _
  refine xj_ic_eq rfl hf (fun hc7 hf => ?_) (fun hc7 hf => ?_)
  · refine xw_G (pc' := 2879) (ls' := [some (.ref 0), some (.ref 160), some (.ref 302), some (.ref 316), some (.ref 317), some (.int (c5 + (6 : Int32))), none, none, none]) (st' := []) rfl rfl (Nat.le_of_ble_eq_true rfl) ?_
    refine xw_G (pc' := 28) (st' := []) rfl rfl trivial ?_
    refine xw_M rfl rfl ?_
    exact ih _ _ ⟨_, _, hS⟩ hf
  · refine xw_G (pc' := 2661) (st' := [.int (0 : Int32)]) rfl rfl trivial ?_
    exact xr_i (inj := xji) (φ := fun h => ∃ ρ δ, xS ρ δ h) rfl rfl rfl rfl hf hQ ⟨_, _, hS⟩

theorem tc_L_law_44 {N ρ δ : Nat} {Q : xm_O → xm_H → Prop} {w : Int32 × xm_H} (hQ : (∃ ρ δ, xS ρ δ w.2) → Q (xji w.1) w.2) {rec : Int32 → xm_H → Option (Int32 × xm_H)} (ih : ∀ (c5 : Int32) (h : xm_H), (∃ ρ δ, xS ρ δ h) → rec c5 h = some w → xm_W (xm_Rn xX 60) xM_L_law Q 28 [some (.ref 0), some (.ref 160), some (.ref 302), some (.ref 316), some (.ref 317), some (.int c5), none, none, none] [] h) : ∀ (c5 : Int32) (h : xm_H), xS ρ δ h → f_L_law_c44 N ρ δ rec c5 h = some w → xm_W (xm_Rn xX 60) xM_L_law Q 2662 [some (.ref 0), some (.ref 160), some (.ref 302), some (.ref 316), some (.ref 317), some (.int c5), none, none, none] [] h := by
  intro c5 h hS hf
  unfold f_L_law_c44 at hf
  refine xw_G (pc' := 2663) (st' := [.ref 160]) rfl rfl trivial ?_
  refine xw_G (pc' := 2664) (st' := [.ref 0, .ref 160]) rfl rfl trivial ?_
  refine xw_G (pc' := 2666) (st' := [.int c5, .ref 0, .ref 160]) rfl rfl trivial ?_
  refine xw_G (pc' := 2667) (st' := [.int (1 : Int32), .int c5, .ref 0, .ref 160]) rfl rfl trivial ?_
  refine xw_G (pc' := 2668) (st' := [.int (c5 + (1 : Int32)), .ref 0, .ref 160]) rfl rfl trivial ?_
  refine xg_e hf (fun hg1 hf => ?_)
  refine xg_e hf (fun hg2 hf => ?_)
  refine xa_ld (t := 100) (τ := 0) (v := .int (xm_i h 0 (Int32.toNatClampNeg (c5 + (1 : Int32))))) rfl rfl hg1 rfl hg2 rfl ?_
  refine xw_G (pc' := 2670) (st' := [.ref 0, .int (xm_i h 0 (Int32.toNatClampNeg (c5 + (1 : Int32)))), .ref 160]) rfl rfl trivial ?_
  refine xw_G (pc' := 2672) (st' := [.int c5, .ref 0, .int (xm_i h 0 (Int32.toNatClampNeg (c5 + (1 : Int32)))), .ref 160]) rfl rfl trivial ?_
  refine xw_G (pc' := 2673) (st' := [.int (2 : Int32), .int c5, .ref 0, .int (xm_i h 0 (Int32.toNatClampNeg (c5 + (1 : Int32)))), .ref 160]) rfl rfl trivial ?_
  refine xw_G (pc' := 2674) (st' := [.int (c5 + (2 : Int32)), .ref 0, .int (xm_i h 0 (Int32.toNatClampNeg (c5 + (1 : Int32)))), .ref 160]) rfl rfl trivial ?_
  refine xg_e hf (fun hg3 hf => ?_)
  refine xa_ld (t := 100) (τ := 0) (v := .int (xm_i h 0 (Int32.toNatClampNeg (c5 + (2 : Int32))))) rfl rfl hg1 rfl hg3 rfl ?_
  refine xw_G (pc' := 2677) (st' := [.ref 317, .int (xm_i h 0 (Int32.toNatClampNeg (c5 + (2 : Int32)))), .int (xm_i h 0 (Int32.toNatClampNeg (c5 + (1 : Int32)))), .ref 160]) rfl rfl trivial ?_
  refine xb_e hf (fun v4 h5 e6 hf => ?_)
  refine xw_S10 (v := some (.int v4)) rfl (Nat.le_of_ble_eq_true rfl) (Nat.le_of_ble_eq_true rfl) (xm_Rn_le (Nat.le_of_ble_eq_true rfl) (t_L_credit  hS e6).1) ?_
  have hS := (t_L_credit  hS e6).2
  show xm_W _ _ _ 2680 _ [.int v4] _
  refine xw_G (pc' := 2682) (ls' := [some (.ref 0), some (.ref 160), some (.ref 302), some (.ref 316), some (.ref 317), some (.int c5), some (.int v4), none, none]) (st' := []) rfl rfl (Nat.le_of_ble_eq_true rfl) ?_
  refine xw_G (pc' := 2683) (st' := [.ref 302]) rfl rfl trivial ?_
  refine xw_G (pc' := 2684) (st' := [.ref 0, .ref 302]) rfl rfl trivial ?_
  refine xw_G (pc' := 2686) (st' := [.int c5, .ref 0, .ref 302]) rfl rfl trivial ?_
  refine xw_G (pc' := 2687) (st' := [.int (1 : Int32), .int c5, .ref 0, .ref 302]) rfl rfl trivial ?_
  refine xw_G (pc' := 2688) (st' := [.int (c5 + (1 : Int32)), .ref 0, .ref 302]) rfl rfl trivial ?_
  refine xg_e hf (fun hg7 hf => ?_)
  refine xg_e hf (fun hg8 hf => ?_)
  refine xa_ld (t := 100) (τ := 0) (v := .int (xm_i h5 0 (Int32.toNatClampNeg (c5 + (1 : Int32))))) rfl rfl hg7 rfl hg8 rfl ?_
  refine xw_G (pc' := 2690) (st' := [.ref 0, .int (xm_i h5 0 (Int32.toNatClampNeg (c5 + (1 : Int32)))), .ref 302]) rfl rfl trivial ?_
  refine xw_G (pc' := 2692) (st' := [.int c5, .ref 0, .int (xm_i h5 0 (Int32.toNatClampNeg (c5 + (1 : Int32)))), .ref 302]) rfl rfl trivial ?_
  refine xw_G (pc' := 2693) (st' := [.int (2 : Int32), .int c5, .ref 0, .int (xm_i h5 0 (Int32.toNatClampNeg (c5 + (1 : Int32)))), .ref 302]) rfl rfl trivial ?_
  refine xw_G (pc' := 2694) (st' := [.int (c5 + (2 : Int32)), .ref 0, .int (xm_i h5 0 (Int32.toNatClampNeg (c5 + (1 : Int32)))), .ref 302]) rfl rfl trivial ?_
  refine xg_e hf (fun hg9 hf => ?_)
  refine xa_ld (t := 100) (τ := 0) (v := .int (xm_i h5 0 (Int32.toNatClampNeg (c5 + (2 : Int32))))) rfl rfl hg7 rfl hg9 rfl ?_
  refine xb_e hf (fun v10 h11 e12 hf => ?_)
  refine xw_V (v := some (.double v10)) rfl rfl (xkf (xs_k hS rfl rfl : xm_k h5 302 = (11, 0))) (Nat.le_of_ble_eq_true rfl) (Nat.le_of_ble_eq_true rfl) (xm_Rn_le (Nat.le_of_ble_eq_true rfl) (t_X11_credit  hS e12).1) ?_
  have hS := (t_X11_credit  hS e12).2
  show xm_W _ _ _ 2698 _ [.double v10] _
  refine xw_G (pc' := 2700) (ls' := [some (.ref 0), some (.ref 160), some (.ref 302), some (.ref 316), some (.ref 317), some (.int c5), some (.int v4), some (.double v10), none]) (st' := []) rfl rfl (Nat.le_of_ble_eq_true rfl) ?_
  refine xw_G (pc' := 2701) (st' := [.ref 302]) rfl rfl trivial ?_
  refine xb_e hf (fun v13 h14 e15 hf => ?_)
  refine xw_V (v := some (.int v13)) rfl rfl (xkf (xs_k hS rfl rfl : xm_k h11 302 = (11, 0))) (Nat.le_of_ble_eq_true rfl) (Nat.le_of_ble_eq_true rfl) (xm_Rn_le (Nat.le_of_ble_eq_true rfl) (t_X11_thrown  hS e15).1) ?_
  have hS := (t_X11_thrown  hS e15).2
  show xm_W _ _ _ 2704 _ [.int v13] _
  refine xw_G (pc' := 2706) (st' := [.int v4, .int v13]) rfl rfl trivial ?_
  refine xj_ic_eq rfl hf (fun hc16 hf => ?_) (fun hc16 hf => ?_)
  · refine xw_G (pc' := 2713) (st' := [.int v4]) rfl rfl trivial ?_
    refine xj_if_ne rfl hf (fun hc17 hf => ?_) (fun hc17 hf => ?_)
    · refine xw_G (pc' := 2718) (st' := [.ref 317]) rfl rfl trivial ?_
      refine xw_G (pc' := 2719) (st' := [.int (0 : Int32), .ref 317]) rfl rfl trivial ?_
      refine xa_ld (t := 105) (τ := 5) (v := .double (xm_d h14 317 0)) rfl rfl (xkf (xs_k hS rfl rfl : xm_k h14 317 = (105, 1))) (xkn (xs_k hS rfl rfl : xm_k h14 317 = (105, 1))) (by decide : xin (0 : Int32) 1) rfl ?_
      refine xw_G (pc' := 2722) (st' := [.double v10, .double (xm_d h14 317 0)]) rfl rfl trivial ?_
      refine xw_G (pc' := 2723) (st' := [.int (Op.cmpValue (FP.dcmp (xm_d h14 317 0) v10) .l)]) rfl rfl trivial ?_
      refine xj_if_eq rfl hf (fun hc18 hf => ?_) (fun hc18 hf => ?_)
      · refine xw_G (pc' := 2876) (st' := []) rfl rfl trivial ?_
        refine xw_G (pc' := 2879) (ls' := [some (.ref 0), some (.ref 160), some (.ref 302), some (.ref 316), some (.ref 317), some (.int (c5 + (6 : Int32))), some (.int v4), some (.double v10), none]) (st' := []) rfl rfl (Nat.le_of_ble_eq_true rfl) ?_
        refine xw_G (pc' := 28) (st' := []) rfl rfl trivial ?_
        refine xw_M rfl rfl ?_
        exact ih _ _ ⟨_, _, hS⟩ hf
      · refine xw_G (pc' := 2728) (st' := [.ref 317]) rfl rfl trivial ?_
        refine xw_G (pc' := 2729) (st' := [.int (0 : Int32), .ref 317]) rfl rfl trivial ?_
        refine xa_ld (t := 105) (τ := 5) (v := .double (xm_d h14 317 0)) rfl rfl (xkf (xs_k hS rfl rfl : xm_k h14 317 = (105, 1))) (xkn (xs_k hS rfl rfl : xm_k h14 317 = (105, 1))) (by decide : xin (0 : Int32) 1) rfl ?_
        refine xw_G (pc' := 2732) (st' := [.ref 317, .double (xm_d h14 317 0)]) rfl rfl trivial ?_
        refine xw_G (pc' := 2733) (st' := [.int (0 : Int32), .ref 317, .double (xm_d h14 317 0)]) rfl rfl trivial ?_
        refine xa_ld (t := 105) (τ := 5) (v := .double (xm_d h14 317 0)) rfl rfl (xkf (xs_k hS rfl rfl : xm_k h14 317 = (105, 1))) (xkn (xs_k hS rfl rfl : xm_k h14 317 = (105, 1))) (by decide : xin (0 : Int32) 1) rfl ?_
        refine xw_G (pc' := 2735) (st' := [.int (Op.cmpValue (FP.dcmp (xm_d h14 317 0) (xm_d h14 317 0)) .l)]) rfl rfl trivial ?_
        refine xj_if_eq rfl hf (fun hc19 hf => ?_) (fun hc19 hf => ?_)
        · refine xw_G (pc' := 2747) (st' := [.int (0 : Int32)]) rfl rfl trivial ?_
          exact xr_i (inj := xji) (φ := fun h => ∃ ρ δ, xS ρ δ h) rfl rfl rfl rfl hf hQ ⟨_, _, hS⟩
        · refine xw_G (pc' := 2740) (st' := [.double v10]) rfl rfl trivial ?_
          refine xw_G (pc' := 2742) (st' := [.double v10, .double v10]) rfl rfl trivial ?_
          refine xw_G (pc' := 2743) (st' := [.int (Op.cmpValue (FP.dcmp v10 v10) .l)]) rfl rfl trivial ?_
          refine xj_if_ne rfl hf (fun hc20 hf => ?_) (fun hc20 hf => ?_)
          · refine xw_G (pc' := 2747) (st' := [.int (0 : Int32)]) rfl rfl trivial ?_
            exact xr_i (inj := xji) (φ := fun h => ∃ ρ δ, xS ρ δ h) rfl rfl rfl rfl hf hQ ⟨_, _, hS⟩
          · refine xw_G (pc' := 2876) (st' := []) rfl rfl trivial ?_
            refine xw_G (pc' := 2879) (ls' := [some (.ref 0), some (.ref 160), some (.ref 302), some (.ref 316), some (.ref 317), some (.int (c5 + (6 : Int32))), some (.int v4), some (.double v10), none]) (st' := []) rfl rfl (Nat.le_of_ble_eq_true rfl) ?_
            refine xw_G (pc' := 28) (st' := []) rfl rfl trivial ?_
            refine xw_M rfl rfl ?_
            exact ih _ _ ⟨_, _, hS⟩ hf
    · refine xw_G (pc' := 2876) (st' := []) rfl rfl trivial ?_
      refine xw_G (pc' := 2879) (ls' := [some (.ref 0), some (.ref 160), some (.ref 302), some (.ref 316), some (.ref 317), some (.int (c5 + (6 : Int32))), some (.int v4), some (.double v10), none]) (st' := []) rfl rfl (Nat.le_of_ble_eq_true rfl) ?_
      refine xw_G (pc' := 28) (st' := []) rfl rfl trivial ?_
      refine xw_M rfl rfl ?_
      exact ih _ _ ⟨_, _, hS⟩ hf
  · refine xw_G (pc' := 2710) (st' := [.int (0 : Int32)]) rfl rfl trivial ?_
    exact xr_i (inj := xji) (φ := fun h => ∃ ρ δ, xS ρ δ h) rfl rfl rfl rfl hf hQ ⟨_, _, hS⟩

theorem tc_L_law_45 {N ρ δ : Nat} {Q : xm_O → xm_H → Prop} {w : Int32 × xm_H} (hQ : (∃ ρ δ, xS ρ δ w.2) → Q (xji w.1) w.2) {rec : Int32 → xm_H → Option (Int32 × xm_H)} (ih : ∀ (c5 : Int32) (h : xm_H), (∃ ρ δ, xS ρ δ h) → rec c5 h = some w → xm_W (xm_Rn xX 60) xM_L_law Q 28 [some (.ref 0), some (.ref 160), some (.ref 302), some (.ref 316), some (.ref 317), some (.int c5), none, none, none] [] h) : ∀ (c5 : Int32) (h : xm_H), xS ρ δ h → f_L_law_c45 N ρ δ rec c5 h = some w → xm_W (xm_Rn xX 60) xM_L_law Q 2751 [some (.ref 0), some (.ref 160), some (.ref 302), some (.ref 316), some (.ref 317), some (.int c5), none, none, none] [] h := by
  intro c5 h hS hf
  unfold f_L_law_c45 at hf
  refine xw_G (pc' := 2752) (st' := [.ref 160]) rfl rfl trivial ?_
  refine xb_e hf (fun v1 h2 e3 hf => ?_)
  refine xw_V (v := some (.int v1)) rfl rfl (xkf (xs_k hS rfl rfl : xm_k h 160 = (0, 0))) (Nat.le_of_ble_eq_true rfl) (Nat.le_of_ble_eq_true rfl) (xm_Rn_le (Nat.le_of_ble_eq_true rfl) (t_X10_unattributed  hS e3).1) ?_
  have hS := (t_X10_unattributed  hS e3).2
  show xm_W _ _ _ 2755 _ [.int v1] _
  refine xw_G (pc' := 2756) (st' := [.ref 302, .int v1]) rfl rfl trivial ?_
  refine xb_e hf (fun v4 h5 e6 hf => ?_)
  refine xw_V (v := some (.int v4)) rfl rfl (xkf (xs_k hS rfl rfl : xm_k h2 302 = (11, 0))) (Nat.le_of_ble_eq_true rfl) (Nat.le_of_ble_eq_true rfl) (xm_Rn_le (Nat.le_of_ble_eq_true rfl) (t_X11_unattributed  hS e6).1) ?_
  have hS := (t_X11_unattributed  hS e6).2
  show xm_W _ _ _ 2759 _ [.int v4, .int v1] _
  refine xj_ic_eq rfl hf (fun hc7 hf => ?_) (fun hc7 hf => ?_)
  · refine xw_G (pc' := 2879) (ls' := [some (.ref 0), some (.ref 160), some (.ref 302), some (.ref 316), some (.ref 317), some (.int (c5 + (6 : Int32))), none, none, none]) (st' := []) rfl rfl (Nat.le_of_ble_eq_true rfl) ?_
    refine xw_G (pc' := 28) (st' := []) rfl rfl trivial ?_
    refine xw_M rfl rfl ?_
    exact ih _ _ ⟨_, _, hS⟩ hf
  · refine xw_G (pc' := 2763) (st' := [.int (0 : Int32)]) rfl rfl trivial ?_
    exact xr_i (inj := xji) (φ := fun h => ∃ ρ δ, xS ρ δ h) rfl rfl rfl rfl hf hQ ⟨_, _, hS⟩

theorem tc_L_law_46 {N ρ δ : Nat} {Q : xm_O → xm_H → Prop} {w : Int32 × xm_H} (hQ : (∃ ρ δ, xS ρ δ w.2) → Q (xji w.1) w.2) {rec : Int32 → xm_H → Option (Int32 × xm_H)} (ih : ∀ (c5 : Int32) (h : xm_H), (∃ ρ δ, xS ρ δ h) → rec c5 h = some w → xm_W (xm_Rn xX 60) xM_L_law Q 28 [some (.ref 0), some (.ref 160), some (.ref 302), some (.ref 316), some (.ref 317), some (.int c5), none, none, none] [] h) : ∀ (c5 : Int32) (h : xm_H), xS ρ δ h → f_L_law_c46 N ρ δ rec c5 h = some w → xm_W (xm_Rn xX 60) xM_L_law Q 2764 [some (.ref 0), some (.ref 160), some (.ref 302), some (.ref 316), some (.ref 317), some (.int c5), none, none, none] [] h := by
  intro c5 h hS hf
  unfold f_L_law_c46 at hf
  refine xw_G (pc' := 2765) (st' := [.ref 160]) rfl rfl trivial ?_
  refine xw_G (pc' := 2766) (st' := [.ref 0, .ref 160]) rfl rfl trivial ?_
  refine xw_G (pc' := 2768) (st' := [.int c5, .ref 0, .ref 160]) rfl rfl trivial ?_
  refine xw_G (pc' := 2769) (st' := [.int (1 : Int32), .int c5, .ref 0, .ref 160]) rfl rfl trivial ?_
  refine xw_G (pc' := 2770) (st' := [.int (c5 + (1 : Int32)), .ref 0, .ref 160]) rfl rfl trivial ?_
  refine xg_e hf (fun hg1 hf => ?_)
  refine xg_e hf (fun hg2 hf => ?_)
  refine xa_ld (t := 100) (τ := 0) (v := .int (xm_i h 0 (Int32.toNatClampNeg (c5 + (1 : Int32))))) rfl rfl hg1 rfl hg2 rfl ?_
  refine xw_G (pc' := 2772) (st' := [.ref 316, .int (xm_i h 0 (Int32.toNatClampNeg (c5 + (1 : Int32)))), .ref 160]) rfl rfl trivial ?_
  refine xb_e hf (fun v3 h4 e5 hf => ?_)
  refine xw_S10 (v := some (.int v3)) rfl (Nat.le_of_ble_eq_true rfl) (Nat.le_of_ble_eq_true rfl) (xm_Rn_le (Nat.le_of_ble_eq_true rfl) (t_L_write  hS e5).1) ?_
  have hS := (t_L_write  hS e5).2
  show xm_W _ _ _ 2775 _ [.int v3] _
  refine xw_G (pc' := 2777) (ls' := [some (.ref 0), some (.ref 160), some (.ref 302), some (.ref 316), some (.ref 317), some (.int c5), some (.int v3), none, none]) (st' := []) rfl rfl (Nat.le_of_ble_eq_true rfl) ?_
  refine xw_G (pc' := 2778) (st' := [.ref 302]) rfl rfl trivial ?_
  refine xw_G (pc' := 2779) (st' := [.ref 0, .ref 302]) rfl rfl trivial ?_
  refine xw_G (pc' := 2781) (st' := [.int c5, .ref 0, .ref 302]) rfl rfl trivial ?_
  refine xw_G (pc' := 2782) (st' := [.int (1 : Int32), .int c5, .ref 0, .ref 302]) rfl rfl trivial ?_
  refine xw_G (pc' := 2783) (st' := [.int (c5 + (1 : Int32)), .ref 0, .ref 302]) rfl rfl trivial ?_
  refine xg_e hf (fun hg6 hf => ?_)
  refine xg_e hf (fun hg7 hf => ?_)
  refine xa_ld (t := 100) (τ := 0) (v := .int (xm_i h4 0 (Int32.toNatClampNeg (c5 + (1 : Int32))))) rfl rfl hg6 rfl hg7 rfl ?_
  refine xb_e hf (fun v8 h9 e10 hf => ?_)
  refine xw_V (v := some (.int v8)) rfl rfl (xkf (xs_k hS rfl rfl : xm_k h4 302 = (11, 0))) (Nat.le_of_ble_eq_true rfl) (Nat.le_of_ble_eq_true rfl) (xm_Rn_le (Nat.le_of_ble_eq_true rfl) (t_X11_write  hS e10).1) ?_
  have hS := (t_X11_write  hS e10).2
  show xm_W _ _ _ 2787 _ [.int v8] _
  refine xw_G (pc' := 2789) (ls' := [some (.ref 0), some (.ref 160), some (.ref 302), some (.ref 316), some (.ref 317), some (.int c5), some (.int v3), some (.int v8), none]) (st' := []) rfl rfl (Nat.le_of_ble_eq_true rfl) ?_
  refine xw_G (pc' := 2790) (st' := [.ref 302]) rfl rfl trivial ?_
  refine xb_e hf (fun v11 h12 e13 hf => ?_)
  refine xw_V (v := some (.int v11)) rfl rfl (xkf (xs_k hS rfl rfl : xm_k h9 302 = (11, 0))) (Nat.le_of_ble_eq_true rfl) (Nat.le_of_ble_eq_true rfl) (xm_Rn_le (Nat.le_of_ble_eq_true rfl) (t_X11_thrown  hS e13).1) ?_
  have hS := (t_X11_thrown  hS e13).2
  show xm_W _ _ _ 2793 _ [.int v11] _
  refine xw_G (pc' := 2795) (st' := [.int v3, .int v11]) rfl rfl trivial ?_
  refine xj_ic_eq rfl hf (fun hc14 hf => ?_) (fun hc14 hf => ?_)
  · refine xw_G (pc' := 2802) (st' := [.int v3]) rfl rfl trivial ?_
    refine xj_if_ne rfl hf (fun hc15 hf => ?_) (fun hc15 hf => ?_)
    · refine xw_G (pc' := 2806) (st' := [.ref 316]) rfl rfl trivial ?_
      refine xw_G (pc' := 2807) (st' := [.int (0 : Int32), .ref 316]) rfl rfl trivial ?_
      refine xa_ld (t := 104) (τ := 4) (v := .long (xm_l h12 316 0)) rfl rfl (xkf (xs_k hS rfl rfl : xm_k h12 316 = (104, 1))) (xkn (xs_k hS rfl rfl : xm_k h12 316 = (104, 1))) (by decide : xin (0 : Int32) 1) rfl ?_
      refine xw_G (pc' := 2810) (st' := [.int v8, .long (xm_l h12 316 0)]) rfl rfl trivial ?_
      refine xw_G (pc' := 2811) (st' := [.long (Int32.toInt64 v8), .long (xm_l h12 316 0)]) rfl rfl trivial ?_
      refine xw_G (pc' := 2812) (st' := [.int (lg_cmp (xm_l h12 316 0) (Int32.toInt64 v8))]) rfl rfl trivial ?_
      refine xj_if_eq rfl hf (fun hc16 hf => ?_) (fun hc16 hf => ?_)
      · refine xw_G (pc' := 2876) (st' := []) rfl rfl trivial ?_
        refine xw_G (pc' := 2879) (ls' := [some (.ref 0), some (.ref 160), some (.ref 302), some (.ref 316), some (.ref 317), some (.int (c5 + (6 : Int32))), some (.int v3), some (.int v8), none]) (st' := []) rfl rfl (Nat.le_of_ble_eq_true rfl) ?_
        refine xw_G (pc' := 28) (st' := []) rfl rfl trivial ?_
        refine xw_M rfl rfl ?_
        exact ih _ _ ⟨_, _, hS⟩ hf
      · refine xw_G (pc' := 2816) (st' := [.int (0 : Int32)]) rfl rfl trivial ?_
        exact xr_i (inj := xji) (φ := fun h => ∃ ρ δ, xS ρ δ h) rfl rfl rfl rfl hf hQ ⟨_, _, hS⟩
    · refine xw_G (pc' := 2876) (st' := []) rfl rfl trivial ?_
      refine xw_G (pc' := 2879) (ls' := [some (.ref 0), some (.ref 160), some (.ref 302), some (.ref 316), some (.ref 317), some (.int (c5 + (6 : Int32))), some (.int v3), some (.int v8), none]) (st' := []) rfl rfl (Nat.le_of_ble_eq_true rfl) ?_
      refine xw_G (pc' := 28) (st' := []) rfl rfl trivial ?_
      refine xw_M rfl rfl ?_
      exact ih _ _ ⟨_, _, hS⟩ hf
  · refine xw_G (pc' := 2799) (st' := [.int (0 : Int32)]) rfl rfl trivial ?_
    exact xr_i (inj := xji) (φ := fun h => ∃ ρ δ, xS ρ δ h) rfl rfl rfl rfl hf hQ ⟨_, _, hS⟩

theorem tc_L_law_47 {N ρ δ : Nat} {Q : xm_O → xm_H → Prop} {w : Int32 × xm_H} (hQ : (∃ ρ δ, xS ρ δ w.2) → Q (xji w.1) w.2) {rec : Int32 → xm_H → Option (Int32 × xm_H)} (ih : ∀ (c5 : Int32) (h : xm_H), (∃ ρ δ, xS ρ δ h) → rec c5 h = some w → xm_W (xm_Rn xX 60) xM_L_law Q 28 [some (.ref 0), some (.ref 160), some (.ref 302), some (.ref 316), some (.ref 317), some (.int c5), none, none, none] [] h) : ∀ (c5 : Int32) (h : xm_H), xS ρ δ h → f_L_law_c47 N ρ δ rec c5 h = some w → xm_W (xm_Rn xX 60) xM_L_law Q 2820 [some (.ref 0), some (.ref 160), some (.ref 302), some (.ref 316), some (.ref 317), some (.int c5), none, none, none] [] h := by
  intro c5 h hS hf
  unfold f_L_law_c47 at hf
  refine xw_G (pc' := 2821) (st' := [.ref 160]) rfl rfl trivial ?_
  refine xw_G (pc' := 2822) (st' := [.ref 0, .ref 160]) rfl rfl trivial ?_
  refine xw_G (pc' := 2824) (st' := [.int c5, .ref 0, .ref 160]) rfl rfl trivial ?_
  refine xw_G (pc' := 2825) (st' := [.int (1 : Int32), .int c5, .ref 0, .ref 160]) rfl rfl trivial ?_
  refine xw_G (pc' := 2826) (st' := [.int (c5 + (1 : Int32)), .ref 0, .ref 160]) rfl rfl trivial ?_
  refine xg_e hf (fun hg1 hf => ?_)
  refine xg_e hf (fun hg2 hf => ?_)
  refine xa_ld (t := 100) (τ := 0) (v := .int (xm_i h 0 (Int32.toNatClampNeg (c5 + (1 : Int32))))) rfl rfl hg1 rfl hg2 rfl ?_
  refine xw_G (pc' := 2828) (st' := [.ref 316, .int (xm_i h 0 (Int32.toNatClampNeg (c5 + (1 : Int32)))), .ref 160]) rfl rfl trivial ?_
  refine xb_e hf (fun v3 h4 e5 hf => ?_)
  refine xw_S10 (v := some (.int v3)) rfl (Nat.le_of_ble_eq_true rfl) (Nat.le_of_ble_eq_true rfl) (xm_Rn_le (Nat.le_of_ble_eq_true rfl) (t_L_written  hS e5).1) ?_
  have hS := (t_L_written  hS e5).2
  show xm_W _ _ _ 2831 _ [.int v3] _
  refine xw_G (pc' := 2833) (ls' := [some (.ref 0), some (.ref 160), some (.ref 302), some (.ref 316), some (.ref 317), some (.int c5), some (.int v3), none, none]) (st' := []) rfl rfl (Nat.le_of_ble_eq_true rfl) ?_
  refine xw_G (pc' := 2834) (st' := [.ref 302]) rfl rfl trivial ?_
  refine xw_G (pc' := 2835) (st' := [.ref 0, .ref 302]) rfl rfl trivial ?_
  refine xw_G (pc' := 2837) (st' := [.int c5, .ref 0, .ref 302]) rfl rfl trivial ?_
  refine xw_G (pc' := 2838) (st' := [.int (1 : Int32), .int c5, .ref 0, .ref 302]) rfl rfl trivial ?_
  refine xw_G (pc' := 2839) (st' := [.int (c5 + (1 : Int32)), .ref 0, .ref 302]) rfl rfl trivial ?_
  refine xg_e hf (fun hg6 hf => ?_)
  refine xg_e hf (fun hg7 hf => ?_)
  refine xa_ld (t := 100) (τ := 0) (v := .int (xm_i h4 0 (Int32.toNatClampNeg (c5 + (1 : Int32))))) rfl rfl hg6 rfl hg7 rfl ?_
  refine xb_e hf (fun v8 h9 e10 hf => ?_)
  refine xw_V (v := some (.int v8)) rfl rfl (xkf (xs_k hS rfl rfl : xm_k h4 302 = (11, 0))) (Nat.le_of_ble_eq_true rfl) (Nat.le_of_ble_eq_true rfl) (xm_Rn_le (Nat.le_of_ble_eq_true rfl) (t_X11_written  hS e10).1) ?_
  have hS := (t_X11_written  hS e10).2
  show xm_W _ _ _ 2843 _ [.int v8] _
  refine xw_G (pc' := 2845) (ls' := [some (.ref 0), some (.ref 160), some (.ref 302), some (.ref 316), some (.ref 317), some (.int c5), some (.int v3), some (.int v8), none]) (st' := []) rfl rfl (Nat.le_of_ble_eq_true rfl) ?_
  refine xw_G (pc' := 2846) (st' := [.ref 302]) rfl rfl trivial ?_
  refine xb_e hf (fun v11 h12 e13 hf => ?_)
  refine xw_V (v := some (.int v11)) rfl rfl (xkf (xs_k hS rfl rfl : xm_k h9 302 = (11, 0))) (Nat.le_of_ble_eq_true rfl) (Nat.le_of_ble_eq_true rfl) (xm_Rn_le (Nat.le_of_ble_eq_true rfl) (t_X11_thrown  hS e13).1) ?_
  have hS := (t_X11_thrown  hS e13).2
  show xm_W _ _ _ 2849 _ [.int v11] _
  refine xw_G (pc' := 2851) (st' := [.int v3, .int v11]) rfl rfl trivial ?_
  refine xj_ic_eq rfl hf (fun hc14 hf => ?_) (fun hc14 hf => ?_)
  · refine xw_G (pc' := 2858) (st' := [.int v3]) rfl rfl trivial ?_
    refine xj_if_ne rfl hf (fun hc15 hf => ?_) (fun hc15 hf => ?_)
    · refine xw_G (pc' := 2862) (st' := [.ref 316]) rfl rfl trivial ?_
      refine xw_G (pc' := 2863) (st' := [.int (0 : Int32), .ref 316]) rfl rfl trivial ?_
      refine xa_ld (t := 104) (τ := 4) (v := .long (xm_l h12 316 0)) rfl rfl (xkf (xs_k hS rfl rfl : xm_k h12 316 = (104, 1))) (xkn (xs_k hS rfl rfl : xm_k h12 316 = (104, 1))) (by decide : xin (0 : Int32) 1) rfl ?_
      refine xw_G (pc' := 2866) (st' := [.int v8, .long (xm_l h12 316 0)]) rfl rfl trivial ?_
      refine xw_G (pc' := 2867) (st' := [.long (Int32.toInt64 v8), .long (xm_l h12 316 0)]) rfl rfl trivial ?_
      refine xw_G (pc' := 2868) (st' := [.int (lg_cmp (xm_l h12 316 0) (Int32.toInt64 v8))]) rfl rfl trivial ?_
      refine xj_if_eq rfl hf (fun hc16 hf => ?_) (fun hc16 hf => ?_)
      · refine xw_G (pc' := 2876) (st' := []) rfl rfl trivial ?_
        refine xw_G (pc' := 2879) (ls' := [some (.ref 0), some (.ref 160), some (.ref 302), some (.ref 316), some (.ref 317), some (.int (c5 + (6 : Int32))), some (.int v3), some (.int v8), none]) (st' := []) rfl rfl (Nat.le_of_ble_eq_true rfl) ?_
        refine xw_G (pc' := 28) (st' := []) rfl rfl trivial ?_
        refine xw_M rfl rfl ?_
        exact ih _ _ ⟨_, _, hS⟩ hf
      · refine xw_G (pc' := 2872) (st' := [.int (0 : Int32)]) rfl rfl trivial ?_
        exact xr_i (inj := xji) (φ := fun h => ∃ ρ δ, xS ρ δ h) rfl rfl rfl rfl hf hQ ⟨_, _, hS⟩
    · refine xw_G (pc' := 2876) (st' := []) rfl rfl trivial ?_
      refine xw_G (pc' := 2879) (ls' := [some (.ref 0), some (.ref 160), some (.ref 302), some (.ref 316), some (.ref 317), some (.int (c5 + (6 : Int32))), some (.int v3), some (.int v8), none]) (st' := []) rfl rfl (Nat.le_of_ble_eq_true rfl) ?_
      refine xw_G (pc' := 28) (st' := []) rfl rfl trivial ?_
      refine xw_M rfl rfl ?_
      exact ih _ _ ⟨_, _, hS⟩ hf
  · refine xw_G (pc' := 2855) (st' := [.int (0 : Int32)]) rfl rfl trivial ?_
    exact xr_i (inj := xji) (φ := fun h => ∃ ρ δ, xS ρ δ h) rfl rfl rfl rfl hf hQ ⟨_, _, hS⟩

theorem tb_L_law {N ρ δ : Nat} {Q : xm_O → xm_H → Prop} {w : Int32 × xm_H} (hQ : (∃ ρ δ, xS ρ δ w.2) → Q (xji w.1) w.2) {rec : Int32 → xm_H → Option (Int32 × xm_H)} (ih : ∀ (c5 : Int32) (h : xm_H), (∃ ρ δ, xS ρ δ h) → rec c5 h = some w → xm_W (xm_Rn xX 60) xM_L_law Q 28 [some (.ref 0), some (.ref 160), some (.ref 302), some (.ref 316), some (.ref 317), some (.int c5), none, none, none] [] h) : ∀ (c5 : Int32) (h : xm_H), xS ρ δ h → f_L_law_28B N ρ δ rec c5 h = some w → xm_W (xm_Rn xX 60) xM_L_law Q 28 [some (.ref 0), some (.ref 160), some (.ref 302), some (.ref 316), some (.ref 317), some (.int c5), none, none, none] [] h := by
  intro c5 h hS hf
  unfold f_L_law_28B at hf
  refine xw_K (pc' := 30) (ls' := [some (.ref 0), some (.ref 160), some (.ref 302), some (.ref 316), some (.ref 317), some (.int c5), none, none, none]) (st' := [.int c5]) rfl rfl trivial ?_
  refine xw_G (pc' := 31) (st' := [.ref 0, .int c5]) rfl rfl trivial ?_
  refine xg_e hf (fun hg1 hf => ?_)
  refine xa_len rfl hg1 rfl ?_
  refine xw_G (pc' := 34) (st' := [.int (6 : Int32), .int (Int32.ofNat (xm_k h 0).2), .int c5]) rfl rfl trivial ?_
  refine xw_G (pc' := 35) (st' := [.int ((Int32.ofNat (xm_k h 0).2) - (6 : Int32)), .int c5]) rfl rfl trivial ?_
  refine xj_ic_gt rfl hf (fun hc2 hf => ?_) (fun hc2 hf => ?_)
  · refine xw_G (pc' := 2883) (st' := [.int (1 : Int32)]) rfl rfl trivial ?_
    exact xr_i (inj := xji) (φ := fun h => ∃ ρ δ, xS ρ δ h) rfl rfl rfl rfl hf hQ ⟨_, _, hS⟩
  · refine xw_G (pc' := 39) (st' := [.ref 0]) rfl rfl trivial ?_
    refine xw_G (pc' := 41) (st' := [.int c5, .ref 0]) rfl rfl trivial ?_
    refine xg_e hf (fun hg3 hf => ?_)
    refine xg_e hf (fun hg4 hf => ?_)
    refine xa_ld (t := 100) (τ := 0) (v := .int (xm_i h 0 (Int32.toNatClampNeg c5))) rfl rfl hg3 rfl hg4 rfl ?_
    refine xw_G (pc' := 44) (st' := [.int (63 : Int32), .int (xm_i h 0 (Int32.toNatClampNeg c5))]) rfl rfl trivial ?_
    refine xw_G (pc' := 45) (st' := [.int ((xm_i h 0 (Int32.toNatClampNeg c5)) &&& (63 : Int32))]) rfl rfl trivial ?_
    refine xj_sw (j := 0) (t := 252) rfl (fun _ z => absurd z (Nat.not_lt_zero _)) rfl rfl hf (fun hf => ?_) (fun hl hf => ?_)
    · exact tc_L_law_0 hQ ih _ _ hS hf
    refine xj_sw (j := 1) (t := 325) rfl hl rfl rfl hf (fun hf => ?_) (fun hl hf => ?_)
    · exact tc_L_law_1 hQ ih _ _ hS hf
    refine xj_sw (j := 2) (t := 381) rfl hl rfl rfl hf (fun hf => ?_) (fun hl hf => ?_)
    · exact tc_L_law_2 hQ ih _ _ hS hf
    refine xj_sw (j := 3) (t := 394) rfl hl rfl rfl hf (fun hf => ?_) (fun hl hf => ?_)
    · exact tc_L_law_3 hQ ih _ _ hS hf
    refine xj_sw (j := 4) (t := 407) rfl hl rfl rfl hf (fun hf => ?_) (fun hl hf => ?_)
    · exact tc_L_law_4 hQ ih _ _ hS hf
    refine xj_sw (j := 5) (t := 420) rfl hl rfl rfl hf (fun hf => ?_) (fun hl hf => ?_)
    · exact tc_L_law_5 hQ ih _ _ hS hf
    refine xj_sw (j := 6) (t := 433) rfl hl rfl rfl hf (fun hf => ?_) (fun hl hf => ?_)
    · exact tc_L_law_6 hQ ih _ _ hS hf
    refine xj_sw (j := 7) (t := 446) rfl hl rfl rfl hf (fun hf => ?_) (fun hl hf => ?_)
    · exact tc_L_law_7 hQ ih _ _ hS hf
    refine xj_sw (j := 8) (t := 502) rfl hl rfl rfl hf (fun hf => ?_) (fun hl hf => ?_)
    · exact tc_L_law_8 hQ ih _ _ hS hf
    refine xj_sw (j := 9) (t := 558) rfl hl rfl rfl hf (fun hf => ?_) (fun hl hf => ?_)
    · exact tc_L_law_9 hQ ih _ _ hS hf
    refine xj_sw (j := 10) (t := 614) rfl hl rfl rfl hf (fun hf => ?_) (fun hl hf => ?_)
    · exact tc_L_law_10 hQ ih _ _ hS hf
    refine xj_sw (j := 11) (t := 670) rfl hl rfl rfl hf (fun hf => ?_) (fun hl hf => ?_)
    · exact tc_L_law_11 hQ ih _ _ hS hf
    refine xj_sw (j := 12) (t := 726) rfl hl rfl rfl hf (fun hf => ?_) (fun hl hf => ?_)
    · exact tc_L_law_12 hQ ih _ _ hS hf
    refine xj_sw (j := 13) (t := 782) rfl hl rfl rfl hf (fun hf => ?_) (fun hl hf => ?_)
    · exact tc_L_law_13 hQ ih _ _ hS hf
    refine xj_sw (j := 14) (t := 838) rfl hl rfl rfl hf (fun hf => ?_) (fun hl hf => ?_)
    · exact tc_L_law_14 hQ ih _ _ hS hf
    refine xj_sw (j := 15) (t := 894) rfl hl rfl rfl hf (fun hf => ?_) (fun hl hf => ?_)
    · exact tc_L_law_15 hQ ih _ _ hS hf
    refine xj_sw (j := 16) (t := 907) rfl hl rfl rfl hf (fun hf => ?_) (fun hl hf => ?_)
    · exact tc_L_law_16 hQ ih _ _ hS hf
    refine xj_sw (j := 17) (t := 987) rfl hl rfl rfl hf (fun hf => ?_) (fun hl hf => ?_)
    · exact tc_L_law_17 hQ ih _ _ hS hf
    refine xj_sw (j := 18) (t := 1067) rfl hl rfl rfl hf (fun hf => ?_) (fun hl hf => ?_)
    · exact tc_L_law_18 hQ ih _ _ hS hf
    refine xj_sw (j := 19) (t := 1147) rfl hl rfl rfl hf (fun hf => ?_) (fun hl hf => ?_)
    · exact tc_L_law_19 hQ ih _ _ hS hf
    refine xj_sw (j := 20) (t := 1227) rfl hl rfl rfl hf (fun hf => ?_) (fun hl hf => ?_)
    · exact tc_L_law_20 hQ ih _ _ hS hf
    refine xj_sw (j := 21) (t := 1319) rfl hl rfl rfl hf (fun hf => ?_) (fun hl hf => ?_)
    · exact tc_L_law_21 hQ ih _ _ hS hf
    refine xj_sw (j := 22) (t := 1399) rfl hl rfl rfl hf (fun hf => ?_) (fun hl hf => ?_)
    · exact tc_L_law_22 hQ ih _ _ hS hf
    refine xj_sw (j := 23) (t := 1479) rfl hl rfl rfl hf (fun hf => ?_) (fun hl hf => ?_)
    · exact tc_L_law_23 hQ ih _ _ hS hf
    refine xj_sw (j := 24) (t := 1571) rfl hl rfl rfl hf (fun hf => ?_) (fun hl hf => ?_)
    · exact tc_L_law_24 hQ ih _ _ hS hf
    refine xj_sw (j := 25) (t := 1663) rfl hl rfl rfl hf (fun hf => ?_) (fun hl hf => ?_)
    · exact tc_L_law_25 hQ ih _ _ hS hf
    refine xj_sw (j := 26) (t := 1743) rfl hl rfl rfl hf (fun hf => ?_) (fun hl hf => ?_)
    · exact tc_L_law_26 hQ ih _ _ hS hf
    refine xj_sw (j := 27) (t := 1799) rfl hl rfl rfl hf (fun hf => ?_) (fun hl hf => ?_)
    · exact tc_L_law_27 hQ ih _ _ hS hf
    refine xj_sw (j := 28) (t := 1867) rfl hl rfl rfl hf (fun hf => ?_) (fun hl hf => ?_)
    · exact tc_L_law_28 hQ ih _ _ hS hf
    refine xj_sw (j := 29) (t := 1923) rfl hl rfl rfl hf (fun hf => ?_) (fun hl hf => ?_)
    · exact tc_L_law_29 hQ ih _ _ hS hf
    refine xj_sw (j := 30) (t := 1979) rfl hl rfl rfl hf (fun hf => ?_) (fun hl hf => ?_)
    · exact tc_L_law_30 hQ ih _ _ hS hf
    refine xj_sw (j := 31) (t := 2047) rfl hl rfl rfl hf (fun hf => ?_) (fun hl hf => ?_)
    · exact tc_L_law_31 hQ ih _ _ hS hf
    refine xj_sw (j := 32) (t := 2115) rfl hl rfl rfl hf (fun hf => ?_) (fun hl hf => ?_)
    · exact tc_L_law_32 hQ ih _ _ hS hf
    refine xj_sw (j := 33) (t := 2183) rfl hl rfl rfl hf (fun hf => ?_) (fun hl hf => ?_)
    · exact tc_L_law_33 hQ ih _ _ hS hf
    refine xj_sw (j := 34) (t := 2251) rfl hl rfl rfl hf (fun hf => ?_) (fun hl hf => ?_)
    · exact tc_L_law_34 hQ ih _ _ hS hf
    refine xj_sw (j := 35) (t := 2264) rfl hl rfl rfl hf (fun hf => ?_) (fun hl hf => ?_)
    · exact tc_L_law_35 hQ ih _ _ hS hf
    refine xj_sw (j := 36) (t := 2277) rfl hl rfl rfl hf (fun hf => ?_) (fun hl hf => ?_)
    · exact tc_L_law_36 hQ ih _ _ hS hf
    refine xj_sw (j := 37) (t := 2345) rfl hl rfl rfl hf (fun hf => ?_) (fun hl hf => ?_)
    · exact tc_L_law_37 hQ ih _ _ hS hf
    refine xj_sw (j := 38) (t := 2358) rfl hl rfl rfl hf (fun hf => ?_) (fun hl hf => ?_)
    · exact tc_L_law_38 hQ ih _ _ hS hf
    refine xj_sw (j := 39) (t := 2414) rfl hl rfl rfl hf (fun hf => ?_) (fun hl hf => ?_)
    · exact tc_L_law_39 hQ ih _ _ hS hf
    refine xj_sw (j := 40) (t := 2491) rfl hl rfl rfl hf (fun hf => ?_) (fun hl hf => ?_)
    · exact tc_L_law_40 hQ ih _ _ hS hf
    refine xj_sw (j := 41) (t := 2559) rfl hl rfl rfl hf (fun hf => ?_) (fun hl hf => ?_)
    · exact tc_L_law_41 hQ ih _ _ hS hf
    refine xj_sw (j := 42) (t := 2572) rfl hl rfl rfl hf (fun hf => ?_) (fun hl hf => ?_)
    · exact tc_L_law_42 hQ ih _ _ hS hf
    refine xj_sw (j := 43) (t := 2649) rfl hl rfl rfl hf (fun hf => ?_) (fun hl hf => ?_)
    · exact tc_L_law_43 hQ ih _ _ hS hf
    refine xj_sw (j := 44) (t := 2662) rfl hl rfl rfl hf (fun hf => ?_) (fun hl hf => ?_)
    · exact tc_L_law_44 hQ ih _ _ hS hf
    refine xj_sw (j := 45) (t := 2751) rfl hl rfl rfl hf (fun hf => ?_) (fun hl hf => ?_)
    · exact tc_L_law_45 hQ ih _ _ hS hf
    refine xj_sw (j := 46) (t := 2764) rfl hl rfl rfl hf (fun hf => ?_) (fun hl hf => ?_)
    · exact tc_L_law_46 hQ ih _ _ hS hf
    refine xj_sw (j := 47) (t := 2820) rfl hl rfl rfl hf (fun hf => ?_) (fun hl hf => ?_)
    · exact tc_L_law_47 hQ ih _ _ hS hf
    refine xj_swd (n := 48) (t := 2876) rfl hl rfl rfl ?_
    refine xw_G (pc' := 2879) (ls' := [some (.ref 0), some (.ref 160), some (.ref 302), some (.ref 316), some (.ref 317), some (.int (c5 + (6 : Int32))), none, none, none]) (st' := []) rfl rfl (Nat.le_of_ble_eq_true rfl) ?_
    refine xw_G (pc' := 28) (st' := []) rfl rfl trivial ?_
    refine xw_M rfl rfl ?_
    exact ih _ _ ⟨_, _, hS⟩ hf

theorem tl_L_law {N : Nat} {Q : xm_O → xm_H → Prop} {w : Int32 × xm_H} (hQ : (∃ ρ δ, xS ρ δ w.2) → Q (xji w.1) w.2) : ∀ (n : Nat) (c5 : Int32) (h : xm_H), (∃ ρ δ, xS ρ δ h) → f_L_law_28 N n c5 h = some w → xm_W (xm_Rn xX 60) xM_L_law Q 28 [some (.ref 0), some (.ref 160), some (.ref 302), some (.ref 316), some (.ref 317), some (.int c5), none, none, none] [] h := by
  intro n
  induction n with
  | zero =>
    intro c5 h _ hf
    exact (xn_e hf).elim
  | succ n ih =>
    intro c5 h hS hf
    obtain ⟨ρ, δ, hS⟩ := hS
    replace hf : (xbr (xm_r h 182 0) fun ρ => xbr (xm_r h 161 3) fun δ => f_L_law_28B N ρ δ (f_L_law_28 N n) c5 h) = some w := hf
    rw [xs_rho hS, xbr_some, xs_del hS, xbr_some] at hf
    exact tb_L_law hQ ih c5 h hS hf
