/-! the law's calls -/
section Law
variable {N ρ δ nc nt nf na n nv ne la nb bo no cap L c k : Nat} {xs : zV} {h g : xm_H} {rec : Int32 → xm_H → Option (Int32 × xm_H)}
theorem zOq.mono {r1 : Option (Int32 × xm_H)} {r2 : xm_H → Option (Int32 × xm_H)} {P Q : xm_H → Prop} (h : zOq r1 r2 P) (hPQ : ∀ g, P g → Q g) : zOq r1 r2 Q := by
  obtain ⟨v, h1, h2, a1, a2, a3⟩ := h
  exact ⟨v, h1, h2, a1, a2, hPQ _ a3⟩
theorem zOpD.mono {r1 : Option (Int32 × xm_H)} {r2 : xm_H → Option (UInt64 × xm_H)} {P Q : xm_H → Prop} (h : zOpD r1 r2 P) (hPQ : ∀ g, P g → Q g) : zOpD r1 r2 Q := by
  obtain ⟨v, h1, b, h2, a1, a2, a3, a4, a5⟩ := h
  exact ⟨v, h1, b, h2, a1, a2, a3, a4, hPQ _ a5⟩
theorem zlg (hk : xm_k g 0 = (100, L)) (hL : L ≤ 3072) (hc : c + 6 ≤ L) (h5 : k ≤ 5) : xin (nI c + nI k) (xm_k g 0).2 := by
  rw [nI_add, hk]
  exact zb_in (show c + k < L by omega) (show L < 2 ^ 31 by omega)
theorem zlk (hI : zInv ρ δ nc nt nf na n nv ne la nb bo no cap L xs h) : xm_k h 0 = (100, L) := (hI.2.2.1 0 (by omega)).1
theorem lc_0 (hN : 20000 ≤ N) (hL : L ≤ 3072) (hc : c + 6 ≤ L) (hI : zInv ρ δ nc nt nf na n nv ne la nb bo no cap L xs h) : ∃ h2, f_L_law_c0 N ρ δ rec (nI c) h = rec (nI c + 6) h2 ∧ zPo L xs h h2 := by
  have hn := hI.n
  have hk := zlk hI
  have O : zOq (f_X10_feed N (xm_i h 0 (Int32.toNatClampNeg (nI c + (1 : Int32)))) (xm_i h 0 (Int32.toNatClampNeg (nI c + (2 : Int32)))) (xm_i h 0 (Int32.toNatClampNeg (nI c + (3 : Int32)))) (xm_i h 0 (Int32.toNatClampNeg (nI c + (4 : Int32)))) (xm_i h 0 (Int32.toNatClampNeg (nI c + (5 : Int32)))) h) (f_X11_feed N (xm_i h 0 (Int32.toNatClampNeg (nI c + (1 : Int32)))) (xm_i h 0 (Int32.toNatClampNeg (nI c + (2 : Int32)))) (xm_i h 0 (Int32.toNatClampNeg (nI c + (3 : Int32)))) (xm_i h 0 (Int32.toNatClampNeg (nI c + (4 : Int32)))) (xm_i h 0 (Int32.toNatClampNeg (nI c + (5 : Int32))))) (zPo L xs h) := zo_feed (by omega) hI
  obtain ⟨v, h1, h2, o1, o2, o5⟩ := O
  have co := xm_Rn_co _ _ _ _ _ _ (t_X10_feed hI.1 o1).1 (by omega)
  have hk1 : xm_k h1 0 = (100, L) := (co.2 0 (by omega)).1.trans hk
  have hi1 : ∀ j, xm_i h1 0 j = xm_i h 0 j := (co.2 0 (by omega)).2
  unfold f_L_law_c0
  rw [if_pos (by rw [hk]), if_pos (show xin (nI c + (1 : Int32)) (xm_k h 0).2 from zlg (k := 1) hk hL hc (by omega)), if_pos (show xin (nI c + (2 : Int32)) (xm_k h 0).2 from zlg (k := 2) hk hL hc (by omega)), if_pos (show xin (nI c + (3 : Int32)) (xm_k h 0).2 from zlg (k := 3) hk hL hc (by omega)), if_pos (show xin (nI c + (4 : Int32)) (xm_k h 0).2 from zlg (k := 4) hk hL hc (by omega)), if_pos (show xin (nI c + (5 : Int32)) (xm_k h 0).2 from zlg (k := 5) hk hL hc (by omega)), o1, xb_some, if_pos (by rw [hk1]), if_pos (show xin (nI c + (1 : Int32)) (xm_k h1 0).2 from zlg (k := 1) hk1 hL hc (by omega)), if_pos (show xin (nI c + (2 : Int32)) (xm_k h1 0).2 from zlg (k := 2) hk1 hL hc (by omega)), if_pos (show xin (nI c + (3 : Int32)) (xm_k h1 0).2 from zlg (k := 3) hk1 hL hc (by omega)), if_pos (show xin (nI c + (4 : Int32)) (xm_k h1 0).2 from zlg (k := 4) hk1 hL hc (by omega)), if_pos (show xin (nI c + (5 : Int32)) (xm_k h1 0).2 from zlg (k := 5) hk1 hL hc (by omega)), hi1, hi1, hi1, hi1, hi1, o2, xb_some, if_pos rfl]
  exact ⟨h2, rfl, o5⟩
theorem lc_1 (hN : 20000 ≤ N) (hL : L ≤ 3072) (hc : c + 6 ≤ L) (hI : zInv ρ δ nc nt nf na n nv ne la nb bo no cap L xs h) : ∃ h2, f_L_law_c1 N ρ δ rec (nI c) h = rec (nI c + 6) h2 ∧ zPo L xs h h2 := by
  have hn := hI.n
  have hk := zlk hI
  have O : zOp (f_L_load N ρ δ (xm_i h 0 (Int32.toNatClampNeg (nI c + (1 : Int32)))) h) (f_X11_load N (xm_i h 0 (Int32.toNatClampNeg (nI c + (1 : Int32))))) (zPo L xs h) := zo_load (by omega) hI
  obtain ⟨v, h1, b, h2, o1, o2, o3, o4, o5⟩ := O
  have co := xm_Rn_co _ _ _ _ _ _ (t_L_load hI.1 o1).1 (by omega)
  have hk1 : xm_k h1 0 = (100, L) := (co.2 0 (by omega)).1.trans hk
  have hi1 : ∀ j, xm_i h1 0 j = xm_i h 0 j := (co.2 0 (by omega)).2
  unfold f_L_law_c1
  rw [if_pos (by rw [hk]), if_pos (show xin (nI c + (1 : Int32)) (xm_k h 0).2 from zlg (k := 1) hk hL hc (by omega)), o1, xb_some, if_pos (by rw [hk1]), if_pos (show xin (nI c + (1 : Int32)) (xm_k h1 0).2 from zlg (k := 1) hk1 hL hc (by omega)), hi1, o2, xb_some, show f_X11_thrown h2 = some (xm_i h2 302 4, h2) from rfl, xb_some, o3, if_pos rfl]
  refine ⟨h2, ?_, o5⟩
  by_cases hv : v = 0
  · rw [if_pos hv, o4 hv, if_pos ((lg_cmp_eq _ _).mpr rfl)]
  · rw [if_neg hv]
theorem lc_2 (hN : 20000 ≤ N) (hL : L ≤ 3072) (hc : c + 6 ≤ L) (hI : zInv ρ δ nc nt nf na n nv ne la nb bo no cap L xs h) : ∃ h2, f_L_law_c2 N ρ δ rec (nI c) h = rec (nI c + 6) h2 ∧ zPo L xs h h2 := by
  have hn := hI.n
  have hk := zlk hI
  have O : zOq (f_X10_errorKind  h) f_X11_errorKind (zPo L xs h) := (zo_errorKind hI).mono (fun g hg => zRO.po hI hg)
  obtain ⟨v, h1, h2, o1, o2, o5⟩ := O
  unfold f_L_law_c2
  rw [o1, xb_some, o2, xb_some, if_pos rfl]
  exact ⟨h2, rfl, o5⟩
theorem lc_3 (hN : 20000 ≤ N) (hL : L ≤ 3072) (hc : c + 6 ≤ L) (hI : zInv ρ δ nc nt nf na n nv ne la nb bo no cap L xs h) : ∃ h2, f_L_law_c3 N ρ δ rec (nI c) h = rec (nI c + 6) h2 ∧ zPo L xs h h2 := by
  have hn := hI.n
  have hk := zlk hI
  have O : zOq (f_X10_errorPosition  h) f_X11_errorPosition (zPo L xs h) := (zo_errorPosition hI).mono (fun g hg => zRO.po hI hg)
  obtain ⟨v, h1, h2, o1, o2, o5⟩ := O
  unfold f_L_law_c3
  rw [o1, xb_some, o2, xb_some, if_pos rfl]
  exact ⟨h2, rfl, o5⟩
theorem lc_4 (hN : 20000 ≤ N) (hL : L ≤ 3072) (hc : c + 6 ≤ L) (hI : zInv ρ δ nc nt nf na n nv ne la nb bo no cap L xs h) : ∃ h2, f_L_law_c4 N ρ δ rec (nI c) h = rec (nI c + 6) h2 ∧ zPo L xs h h2 := by
  have hn := hI.n
  have hk := zlk hI
  have O : zOq (f_X10_campaigns ρ h) f_X11_campaigns (zPo L xs h) := (zo_campaigns hI).mono (fun g hg => zRO.po hI hg)
  obtain ⟨v, h1, h2, o1, o2, o5⟩ := O
  unfold f_L_law_c4
  rw [o1, xb_some, o2, xb_some, if_pos rfl]
  exact ⟨h2, rfl, o5⟩
theorem lc_5 (hN : 20000 ≤ N) (hL : L ≤ 3072) (hc : c + 6 ≤ L) (hI : zInv ρ δ nc nt nf na n nv ne la nb bo no cap L xs h) : ∃ h2, f_L_law_c5 N ρ δ rec (nI c) h = rec (nI c + 6) h2 ∧ zPo L xs h h2 := by
  have hn := hI.n
  have hk := zlk hI
  have O : zOq (f_X10_tags ρ h) f_X11_tags (zPo L xs h) := (zo_tags hI).mono (fun g hg => zRO.po hI hg)
  obtain ⟨v, h1, h2, o1, o2, o5⟩ := O
  unfold f_L_law_c5
  rw [o1, xb_some, o2, xb_some, if_pos rfl]
  exact ⟨h2, rfl, o5⟩
theorem lc_6 (hN : 20000 ≤ N) (hL : L ≤ 3072) (hc : c + 6 ≤ L) (hI : zInv ρ δ nc nt nf na n nv ne la nb bo no cap L xs h) : ∃ h2, f_L_law_c6 N ρ δ rec (nI c) h = rec (nI c + 6) h2 ∧ zPo L xs h h2 := by
  have hn := hI.n
  have hk := zlk hI
  have O : zOq (f_X10_slots ρ h) f_X11_slots (zPo L xs h) := (zo_slots hI).mono (fun g hg => zRO.po hI hg)
  obtain ⟨v, h1, h2, o1, o2, o5⟩ := O
  unfold f_L_law_c6
  rw [o1, xb_some, o2, xb_some, if_pos rfl]
  exact ⟨h2, rfl, o5⟩
theorem lc_7 (hN : 20000 ≤ N) (hL : L ≤ 3072) (hc : c + 6 ≤ L) (hI : zInv ρ δ nc nt nf na n nv ne la nb bo no cap L xs h) : ∃ h2, f_L_law_c7 N ρ δ rec (nI c) h = rec (nI c + 6) h2 ∧ zPo L xs h h2 := by
  have hn := hI.n
  have hk := zlk hI
  have O : zOp (f_L_floor ρ (xm_i h 0 (Int32.toNatClampNeg (nI c + (1 : Int32)))) h) (f_X11_floor (xm_i h 0 (Int32.toNatClampNeg (nI c + (1 : Int32))))) (zPo L xs h) := (zo_floor hI).mono (fun g hg => zRO.po hI hg)
  obtain ⟨v, h1, b, h2, o1, o2, o3, o4, o5⟩ := O
  have co := xm_Rn_co _ _ _ _ _ _ (t_L_floor hI.1 o1).1 (by omega)
  have hk1 : xm_k h1 0 = (100, L) := (co.2 0 (by omega)).1.trans hk
  have hi1 : ∀ j, xm_i h1 0 j = xm_i h 0 j := (co.2 0 (by omega)).2
  unfold f_L_law_c7
  rw [if_pos (by rw [hk]), if_pos (show xin (nI c + (1 : Int32)) (xm_k h 0).2 from zlg (k := 1) hk hL hc (by omega)), o1, xb_some, if_pos (by rw [hk1]), if_pos (show xin (nI c + (1 : Int32)) (xm_k h1 0).2 from zlg (k := 1) hk1 hL hc (by omega)), hi1, o2, xb_some, show f_X11_thrown h2 = some (xm_i h2 302 4, h2) from rfl, xb_some, o3, if_pos rfl]
  refine ⟨h2, ?_, o5⟩
  by_cases hv : v = 0
  · rw [if_pos hv, o4 hv, if_pos ((lg_cmp_eq _ _).mpr rfl)]
  · rw [if_neg hv]
theorem lc_8 (hN : 20000 ≤ N) (hL : L ≤ 3072) (hc : c + 6 ≤ L) (hI : zInv ρ δ nc nt nf na n nv ne la nb bo no cap L xs h) : ∃ h2, f_L_law_c8 N ρ δ rec (nI c) h = rec (nI c + 6) h2 ∧ zPo L xs h h2 := by
  have hn := hI.n
  have hk := zlk hI
  have O : zOp (f_L_bid ρ (xm_i h 0 (Int32.toNatClampNeg (nI c + (1 : Int32)))) h) (f_X11_bid (xm_i h 0 (Int32.toNatClampNeg (nI c + (1 : Int32))))) (zPo L xs h) := (zo_bid hI).mono (fun g hg => zRO.po hI hg)
  obtain ⟨v, h1, b, h2, o1, o2, o3, o4, o5⟩ := O
  have co := xm_Rn_co _ _ _ _ _ _ (t_L_bid hI.1 o1).1 (by omega)
  have hk1 : xm_k h1 0 = (100, L) := (co.2 0 (by omega)).1.trans hk
  have hi1 : ∀ j, xm_i h1 0 j = xm_i h 0 j := (co.2 0 (by omega)).2
  unfold f_L_law_c8
  rw [if_pos (by rw [hk]), if_pos (show xin (nI c + (1 : Int32)) (xm_k h 0).2 from zlg (k := 1) hk hL hc (by omega)), o1, xb_some, if_pos (by rw [hk1]), if_pos (show xin (nI c + (1 : Int32)) (xm_k h1 0).2 from zlg (k := 1) hk1 hL hc (by omega)), hi1, o2, xb_some, show f_X11_thrown h2 = some (xm_i h2 302 4, h2) from rfl, xb_some, o3, if_pos rfl]
  refine ⟨h2, ?_, o5⟩
  by_cases hv : v = 0
  · rw [if_pos hv, o4 hv, if_pos ((lg_cmp_eq _ _).mpr rfl)]
  · rw [if_neg hv]
theorem lc_9 (hN : 20000 ≤ N) (hL : L ≤ 3072) (hc : c + 6 ≤ L) (hI : zInv ρ δ nc nt nf na n nv ne la nb bo no cap L xs h) : ∃ h2, f_L_law_c9 N ρ δ rec (nI c) h = rec (nI c + 6) h2 ∧ zPo L xs h h2 := by
  have hn := hI.n
  have hk := zlk hI
  have O : zOp (f_L_effectiveBid ρ (xm_i h 0 (Int32.toNatClampNeg (nI c + (1 : Int32)))) h) (f_X11_effectiveBid (xm_i h 0 (Int32.toNatClampNeg (nI c + (1 : Int32))))) (zPo L xs h) := (zo_effectiveBid hI).mono (fun g hg => zRO.po hI hg)
  obtain ⟨v, h1, b, h2, o1, o2, o3, o4, o5⟩ := O
  have co := xm_Rn_co _ _ _ _ _ _ (t_L_effectiveBid hI.1 o1).1 (by omega)
  have hk1 : xm_k h1 0 = (100, L) := (co.2 0 (by omega)).1.trans hk
  have hi1 : ∀ j, xm_i h1 0 j = xm_i h 0 j := (co.2 0 (by omega)).2
  unfold f_L_law_c9
  rw [if_pos (by rw [hk]), if_pos (show xin (nI c + (1 : Int32)) (xm_k h 0).2 from zlg (k := 1) hk hL hc (by omega)), o1, xb_some, if_pos (by rw [hk1]), if_pos (show xin (nI c + (1 : Int32)) (xm_k h1 0).2 from zlg (k := 1) hk1 hL hc (by omega)), hi1, o2, xb_some, show f_X11_thrown h2 = some (xm_i h2 302 4, h2) from rfl, xb_some, o3, if_pos rfl]
  refine ⟨h2, ?_, o5⟩
  by_cases hv : v = 0
  · rw [if_pos hv, o4 hv, if_pos ((lg_cmp_eq _ _).mpr rfl)]
  · rw [if_neg hv]
theorem lc_10 (hN : 20000 ≤ N) (hL : L ≤ 3072) (hc : c + 6 ≤ L) (hI : zInv ρ δ nc nt nf na n nv ne la nb bo no cap L xs h) : ∃ h2, f_L_law_c10 N ρ δ rec (nI c) h = rec (nI c + 6) h2 ∧ zPo L xs h h2 := by
  have hn := hI.n
  have hk := zlk hI
  have O : zOp (f_L_multiplier ρ (xm_i h 0 (Int32.toNatClampNeg (nI c + (1 : Int32)))) h) (f_X11_multiplier (xm_i h 0 (Int32.toNatClampNeg (nI c + (1 : Int32))))) (zPo L xs h) := (zo_multiplier hI).mono (fun g hg => zRO.po hI hg)
  obtain ⟨v, h1, b, h2, o1, o2, o3, o4, o5⟩ := O
  have co := xm_Rn_co _ _ _ _ _ _ (t_L_multiplier hI.1 o1).1 (by omega)
  have hk1 : xm_k h1 0 = (100, L) := (co.2 0 (by omega)).1.trans hk
  have hi1 : ∀ j, xm_i h1 0 j = xm_i h 0 j := (co.2 0 (by omega)).2
  unfold f_L_law_c10
  rw [if_pos (by rw [hk]), if_pos (show xin (nI c + (1 : Int32)) (xm_k h 0).2 from zlg (k := 1) hk hL hc (by omega)), o1, xb_some, if_pos (by rw [hk1]), if_pos (show xin (nI c + (1 : Int32)) (xm_k h1 0).2 from zlg (k := 1) hk1 hL hc (by omega)), hi1, o2, xb_some, show f_X11_thrown h2 = some (xm_i h2 302 4, h2) from rfl, xb_some, o3, if_pos rfl]
  refine ⟨h2, ?_, o5⟩
  by_cases hv : v = 0
  · rw [if_pos hv, o4 hv, if_pos ((lg_cmp_eq _ _).mpr rfl)]
  · rw [if_neg hv]
theorem lc_11 (hN : 20000 ≤ N) (hL : L ≤ 3072) (hc : c + 6 ≤ L) (hI : zInv ρ δ nc nt nf na n nv ne la nb bo no cap L xs h) : ∃ h2, f_L_law_c11 N ρ δ rec (nI c) h = rec (nI c + 6) h2 ∧ zPo L xs h h2 := by
  have hn := hI.n
  have hk := zlk hI
  have O : zOp (f_L_budget ρ (xm_i h 0 (Int32.toNatClampNeg (nI c + (1 : Int32)))) h) (f_X11_budget (xm_i h 0 (Int32.toNatClampNeg (nI c + (1 : Int32))))) (zPo L xs h) := (zo_budget hI).mono (fun g hg => zRO.po hI hg)
  obtain ⟨v, h1, b, h2, o1, o2, o3, o4, o5⟩ := O
  have co := xm_Rn_co _ _ _ _ _ _ (t_L_budget hI.1 o1).1 (by omega)
  have hk1 : xm_k h1 0 = (100, L) := (co.2 0 (by omega)).1.trans hk
  have hi1 : ∀ j, xm_i h1 0 j = xm_i h 0 j := (co.2 0 (by omega)).2
  unfold f_L_law_c11
  rw [if_pos (by rw [hk]), if_pos (show xin (nI c + (1 : Int32)) (xm_k h 0).2 from zlg (k := 1) hk hL hc (by omega)), o1, xb_some, if_pos (by rw [hk1]), if_pos (show xin (nI c + (1 : Int32)) (xm_k h1 0).2 from zlg (k := 1) hk1 hL hc (by omega)), hi1, o2, xb_some, show f_X11_thrown h2 = some (xm_i h2 302 4, h2) from rfl, xb_some, o3, if_pos rfl]
  refine ⟨h2, ?_, o5⟩
  by_cases hv : v = 0
  · rw [if_pos hv, o4 hv, if_pos ((lg_cmp_eq _ _).mpr rfl)]
  · rw [if_neg hv]
theorem lc_12 (hN : 20000 ≤ N) (hL : L ≤ 3072) (hc : c + 6 ≤ L) (hI : zInv ρ δ nc nt nf na n nv ne la nb bo no cap L xs h) : ∃ h2, f_L_law_c12 N ρ δ rec (nI c) h = rec (nI c + 6) h2 ∧ zPo L xs h h2 := by
  have hn := hI.n
  have hk := zlk hI
  have O : zOp (f_L_spent ρ (xm_i h 0 (Int32.toNatClampNeg (nI c + (1 : Int32)))) h) (f_X11_spent (xm_i h 0 (Int32.toNatClampNeg (nI c + (1 : Int32))))) (zPo L xs h) := (zo_spent hI).mono (fun g hg => zRO.po hI hg)
  obtain ⟨v, h1, b, h2, o1, o2, o3, o4, o5⟩ := O
  have co := xm_Rn_co _ _ _ _ _ _ (t_L_spent hI.1 o1).1 (by omega)
  have hk1 : xm_k h1 0 = (100, L) := (co.2 0 (by omega)).1.trans hk
  have hi1 : ∀ j, xm_i h1 0 j = xm_i h 0 j := (co.2 0 (by omega)).2
  unfold f_L_law_c12
  rw [if_pos (by rw [hk]), if_pos (show xin (nI c + (1 : Int32)) (xm_k h 0).2 from zlg (k := 1) hk hL hc (by omega)), o1, xb_some, if_pos (by rw [hk1]), if_pos (show xin (nI c + (1 : Int32)) (xm_k h1 0).2 from zlg (k := 1) hk1 hL hc (by omega)), hi1, o2, xb_some, show f_X11_thrown h2 = some (xm_i h2 302 4, h2) from rfl, xb_some, o3, if_pos rfl]
  refine ⟨h2, ?_, o5⟩
  by_cases hv : v = 0
  · rw [if_pos hv, o4 hv, if_pos ((lg_cmp_eq _ _).mpr rfl)]
  · rw [if_neg hv]
theorem lc_13 (hN : 20000 ≤ N) (hL : L ≤ 3072) (hc : c + 6 ≤ L) (hI : zInv ρ δ nc nt nf na n nv ne la nb bo no cap L xs h) : ∃ h2, f_L_law_c13 N ρ δ rec (nI c) h = rec (nI c + 6) h2 ∧ zPo L xs h h2 := by
  have hn := hI.n
  have hk := zlk hI
  have O : zOp (f_L_plan ρ (xm_i h 0 (Int32.toNatClampNeg (nI c + (1 : Int32)))) h) (f_X11_plan (xm_i h 0 (Int32.toNatClampNeg (nI c + (1 : Int32))))) (zPo L xs h) := (zo_plan hI).mono (fun g hg => zRO.po hI hg)
  obtain ⟨v, h1, b, h2, o1, o2, o3, o4, o5⟩ := O
  have co := xm_Rn_co _ _ _ _ _ _ (t_L_plan hI.1 o1).1 (by omega)
  have hk1 : xm_k h1 0 = (100, L) := (co.2 0 (by omega)).1.trans hk
  have hi1 : ∀ j, xm_i h1 0 j = xm_i h 0 j := (co.2 0 (by omega)).2
  unfold f_L_law_c13
  rw [if_pos (by rw [hk]), if_pos (show xin (nI c + (1 : Int32)) (xm_k h 0).2 from zlg (k := 1) hk hL hc (by omega)), o1, xb_some, if_pos (by rw [hk1]), if_pos (show xin (nI c + (1 : Int32)) (xm_k h1 0).2 from zlg (k := 1) hk1 hL hc (by omega)), hi1, o2, xb_some, show f_X11_thrown h2 = some (xm_i h2 302 4, h2) from rfl, xb_some, o3, if_pos rfl]
  refine ⟨h2, ?_, o5⟩
  by_cases hv : v = 0
  · rw [if_pos hv, o4 hv, if_pos ((lg_cmp_eq _ _).mpr rfl)]
  · rw [if_neg hv]
theorem lc_14 (hN : 20000 ≤ N) (hL : L ≤ 3072) (hc : c + 6 ≤ L) (hI : zInv ρ δ nc nt nf na n nv ne la nb bo no cap L xs h) : ∃ h2, f_L_law_c14 N ρ δ rec (nI c) h = rec (nI c + 6) h2 ∧ zPo L xs h h2 := by
  have hn := hI.n
  have hk := zlk hI
  have O : zOp (f_L_mode ρ (xm_i h 0 (Int32.toNatClampNeg (nI c + (1 : Int32)))) h) (f_X11_mode (xm_i h 0 (Int32.toNatClampNeg (nI c + (1 : Int32))))) (zPo L xs h) := (zo_mode hI).mono (fun g hg => zRO.po hI hg)
  obtain ⟨v, h1, b, h2, o1, o2, o3, o4, o5⟩ := O
  have co := xm_Rn_co _ _ _ _ _ _ (t_L_mode hI.1 o1).1 (by omega)
  have hk1 : xm_k h1 0 = (100, L) := (co.2 0 (by omega)).1.trans hk
  have hi1 : ∀ j, xm_i h1 0 j = xm_i h 0 j := (co.2 0 (by omega)).2
  unfold f_L_law_c14
  rw [if_pos (by rw [hk]), if_pos (show xin (nI c + (1 : Int32)) (xm_k h 0).2 from zlg (k := 1) hk hL hc (by omega)), o1, xb_some, if_pos (by rw [hk1]), if_pos (show xin (nI c + (1 : Int32)) (xm_k h1 0).2 from zlg (k := 1) hk1 hL hc (by omega)), hi1, o2, xb_some, show f_X11_thrown h2 = some (xm_i h2 302 4, h2) from rfl, xb_some, o3, if_pos rfl]
  refine ⟨h2, ?_, o5⟩
  by_cases hv : v = 0
  · rw [if_pos hv, o4 hv, if_pos ((lg_cmp_eq _ _).mpr rfl)]
  · rw [if_neg hv]
theorem lc_15 (hN : 20000 ≤ N) (hL : L ≤ 3072) (hc : c + 6 ≤ L) (hI : zInv ρ δ nc nt nf na n nv ne la nb bo no cap L xs h) : ∃ h2, f_L_law_c15 N ρ δ rec (nI c) h = rec (nI c + 6) h2 ∧ zPo L xs h h2 := by
  have hn := hI.n
  have hk := zlk hI
  have O : zOq (f_X10_tick  h) f_X11_tick (zPo L xs h) := (zo_tick hI).mono (fun g hg => zRO.po hI hg)
  obtain ⟨v, h1, h2, o1, o2, o5⟩ := O
  unfold f_L_law_c15
  rw [o1, xb_some, o2, xb_some, if_pos rfl]
  exact ⟨h2, rfl, o5⟩
theorem lc_16 (hN : 20000 ≤ N) (hL : L ≤ 3072) (hc : c + 6 ≤ L) (hI : zInv ρ δ nc nt nf na n nv ne la nb bo no cap L xs h) : ∃ h2, f_L_law_c16 N ρ δ rec (nI c) h = rec (nI c + 6) h2 ∧ zPo L xs h h2 := by
  have hn := hI.n
  have hk := zlk hI
  have O : zOp (f_L_refusal N ρ (xm_i h 0 (Int32.toNatClampNeg (nI c + (1 : Int32)))) (xm_i h 0 (Int32.toNatClampNeg (nI c + (2 : Int32)))) (xm_i h 0 (Int32.toNatClampNeg (nI c + (3 : Int32)))) h) (f_X11_refusal N (xm_i h 0 (Int32.toNatClampNeg (nI c + (1 : Int32)))) (xm_i h 0 (Int32.toNatClampNeg (nI c + (2 : Int32)))) (xm_i h 0 (Int32.toNatClampNeg (nI c + (3 : Int32))))) (zPo L xs h) := (zo_refusal (by omega) hI).mono (fun g hg => zRO.po hI hg)
  obtain ⟨v, h1, b, h2, o1, o2, o3, o4, o5⟩ := O
  have co := xm_Rn_co _ _ _ _ _ _ (t_L_refusal hI.1 o1).1 (by omega)
  have hk1 : xm_k h1 0 = (100, L) := (co.2 0 (by omega)).1.trans hk
  have hi1 : ∀ j, xm_i h1 0 j = xm_i h 0 j := (co.2 0 (by omega)).2
  unfold f_L_law_c16
  rw [if_pos (by rw [hk]), if_pos (show xin (nI c + (1 : Int32)) (xm_k h 0).2 from zlg (k := 1) hk hL hc (by omega)), if_pos (show xin (nI c + (2 : Int32)) (xm_k h 0).2 from zlg (k := 2) hk hL hc (by omega)), if_pos (show xin (nI c + (3 : Int32)) (xm_k h 0).2 from zlg (k := 3) hk hL hc (by omega)), o1, xb_some, if_pos (by rw [hk1]), if_pos (show xin (nI c + (1 : Int32)) (xm_k h1 0).2 from zlg (k := 1) hk1 hL hc (by omega)), if_pos (show xin (nI c + (2 : Int32)) (xm_k h1 0).2 from zlg (k := 2) hk1 hL hc (by omega)), if_pos (show xin (nI c + (3 : Int32)) (xm_k h1 0).2 from zlg (k := 3) hk1 hL hc (by omega)), hi1, hi1, hi1, o2, xb_some, show f_X11_thrown h2 = some (xm_i h2 302 4, h2) from rfl, xb_some, o3, if_pos rfl]
  refine ⟨h2, ?_, o5⟩
  by_cases hv : v = 0
  · rw [if_pos hv, o4 hv, if_pos ((lg_cmp_eq _ _).mpr rfl)]
  · rw [if_neg hv]
theorem lc_17 (hN : 20000 ≤ N) (hL : L ≤ 3072) (hc : c + 6 ≤ L) (hI : zInv ρ δ nc nt nf na n nv ne la nb bo no cap L xs h) : ∃ h2, f_L_law_c17 N ρ δ rec (nI c) h = rec (nI c + 6) h2 ∧ zPo L xs h h2 := by
  have hn := hI.n
  have hk := zlk hI
  have O : zOp (f_L_ranked N ρ (xm_i h 0 (Int32.toNatClampNeg (nI c + (1 : Int32)))) (xm_i h 0 (Int32.toNatClampNeg (nI c + (2 : Int32)))) (xm_i h 0 (Int32.toNatClampNeg (nI c + (3 : Int32)))) h) (f_X11_ranked N (xm_i h 0 (Int32.toNatClampNeg (nI c + (1 : Int32)))) (xm_i h 0 (Int32.toNatClampNeg (nI c + (2 : Int32)))) (xm_i h 0 (Int32.toNatClampNeg (nI c + (3 : Int32))))) (zPo L xs h) := (zo_ranked (by omega) hI).mono (fun g hg => zRO.po hI hg)
  obtain ⟨v, h1, b, h2, o1, o2, o3, o4, o5⟩ := O
  have co := xm_Rn_co _ _ _ _ _ _ (t_L_ranked hI.1 o1).1 (by omega)
  have hk1 : xm_k h1 0 = (100, L) := (co.2 0 (by omega)).1.trans hk
  have hi1 : ∀ j, xm_i h1 0 j = xm_i h 0 j := (co.2 0 (by omega)).2
  unfold f_L_law_c17
  rw [if_pos (by rw [hk]), if_pos (show xin (nI c + (1 : Int32)) (xm_k h 0).2 from zlg (k := 1) hk hL hc (by omega)), if_pos (show xin (nI c + (2 : Int32)) (xm_k h 0).2 from zlg (k := 2) hk hL hc (by omega)), if_pos (show xin (nI c + (3 : Int32)) (xm_k h 0).2 from zlg (k := 3) hk hL hc (by omega)), o1, xb_some, if_pos (by rw [hk1]), if_pos (show xin (nI c + (1 : Int32)) (xm_k h1 0).2 from zlg (k := 1) hk1 hL hc (by omega)), if_pos (show xin (nI c + (2 : Int32)) (xm_k h1 0).2 from zlg (k := 2) hk1 hL hc (by omega)), if_pos (show xin (nI c + (3 : Int32)) (xm_k h1 0).2 from zlg (k := 3) hk1 hL hc (by omega)), hi1, hi1, hi1, o2, xb_some, show f_X11_thrown h2 = some (xm_i h2 302 4, h2) from rfl, xb_some, o3, if_pos rfl]
  refine ⟨h2, ?_, o5⟩
  by_cases hv : v = 0
  · rw [if_pos hv, o4 hv, if_pos ((lg_cmp_eq _ _).mpr rfl)]
  · rw [if_neg hv]
theorem lc_18 (hN : 20000 ≤ N) (hL : L ≤ 3072) (hc : c + 6 ≤ L) (hI : zInv ρ δ nc nt nf na n nv ne la nb bo no cap L xs h) : ∃ h2, f_L_law_c18 N ρ δ rec (nI c) h = rec (nI c + 6) h2 ∧ zPo L xs h h2 := by
  have hn := hI.n
  have hk := zlk hI
  have O : zOp (f_L_winner N ρ (xm_i h 0 (Int32.toNatClampNeg (nI c + (1 : Int32)))) (xm_i h 0 (Int32.toNatClampNeg (nI c + (2 : Int32)))) (xm_i h 0 (Int32.toNatClampNeg (nI c + (3 : Int32)))) h) (f_X11_winner N (xm_i h 0 (Int32.toNatClampNeg (nI c + (1 : Int32)))) (xm_i h 0 (Int32.toNatClampNeg (nI c + (2 : Int32)))) (xm_i h 0 (Int32.toNatClampNeg (nI c + (3 : Int32))))) (zPo L xs h) := (zo_winner (by omega) hI).mono (fun g hg => zRO.po hI hg)
  obtain ⟨v, h1, b, h2, o1, o2, o3, o4, o5⟩ := O
  have co := xm_Rn_co _ _ _ _ _ _ (t_L_winner hI.1 o1).1 (by omega)
  have hk1 : xm_k h1 0 = (100, L) := (co.2 0 (by omega)).1.trans hk
  have hi1 : ∀ j, xm_i h1 0 j = xm_i h 0 j := (co.2 0 (by omega)).2
  unfold f_L_law_c18
  rw [if_pos (by rw [hk]), if_pos (show xin (nI c + (1 : Int32)) (xm_k h 0).2 from zlg (k := 1) hk hL hc (by omega)), if_pos (show xin (nI c + (2 : Int32)) (xm_k h 0).2 from zlg (k := 2) hk hL hc (by omega)), if_pos (show xin (nI c + (3 : Int32)) (xm_k h 0).2 from zlg (k := 3) hk hL hc (by omega)), o1, xb_some, if_pos (by rw [hk1]), if_pos (show xin (nI c + (1 : Int32)) (xm_k h1 0).2 from zlg (k := 1) hk1 hL hc (by omega)), if_pos (show xin (nI c + (2 : Int32)) (xm_k h1 0).2 from zlg (k := 2) hk1 hL hc (by omega)), if_pos (show xin (nI c + (3 : Int32)) (xm_k h1 0).2 from zlg (k := 3) hk1 hL hc (by omega)), hi1, hi1, hi1, o2, xb_some, show f_X11_thrown h2 = some (xm_i h2 302 4, h2) from rfl, xb_some, o3, if_pos rfl]
  refine ⟨h2, ?_, o5⟩
  by_cases hv : v = 0
  · rw [if_pos hv, o4 hv, if_pos ((lg_cmp_eq _ _).mpr rfl)]
  · rw [if_neg hv]
theorem lc_19 (hN : 20000 ≤ N) (hL : L ≤ 3072) (hc : c + 6 ≤ L) (hI : zInv ρ δ nc nt nf na n nv ne la nb bo no cap L xs h) : ∃ h2, f_L_law_c19 N ρ δ rec (nI c) h = rec (nI c + 6) h2 ∧ zPo L xs h h2 := by
  have hn := hI.n
  have hk := zlk hI
  have O : zOp (f_L_price N ρ (xm_i h 0 (Int32.toNatClampNeg (nI c + (1 : Int32)))) (xm_i h 0 (Int32.toNatClampNeg (nI c + (2 : Int32)))) (xm_i h 0 (Int32.toNatClampNeg (nI c + (3 : Int32)))) h) (f_X11_price N (xm_i h 0 (Int32.toNatClampNeg (nI c + (1 : Int32)))) (xm_i h 0 (Int32.toNatClampNeg (nI c + (2 : Int32)))) (xm_i h 0 (Int32.toNatClampNeg (nI c + (3 : Int32))))) (zPo L xs h) := (zo_price (by omega) hI).mono (fun g hg => zRO.po hI hg)
  obtain ⟨v, h1, b, h2, o1, o2, o3, o4, o5⟩ := O
  have co := xm_Rn_co _ _ _ _ _ _ (t_L_price hI.1 o1).1 (by omega)
  have hk1 : xm_k h1 0 = (100, L) := (co.2 0 (by omega)).1.trans hk
  have hi1 : ∀ j, xm_i h1 0 j = xm_i h 0 j := (co.2 0 (by omega)).2
  unfold f_L_law_c19
  rw [if_pos (by rw [hk]), if_pos (show xin (nI c + (1 : Int32)) (xm_k h 0).2 from zlg (k := 1) hk hL hc (by omega)), if_pos (show xin (nI c + (2 : Int32)) (xm_k h 0).2 from zlg (k := 2) hk hL hc (by omega)), if_pos (show xin (nI c + (3 : Int32)) (xm_k h 0).2 from zlg (k := 3) hk hL hc (by omega)), o1, xb_some, if_pos (by rw [hk1]), if_pos (show xin (nI c + (1 : Int32)) (xm_k h1 0).2 from zlg (k := 1) hk1 hL hc (by omega)), if_pos (show xin (nI c + (2 : Int32)) (xm_k h1 0).2 from zlg (k := 2) hk1 hL hc (by omega)), if_pos (show xin (nI c + (3 : Int32)) (xm_k h1 0).2 from zlg (k := 3) hk1 hL hc (by omega)), hi1, hi1, hi1, o2, xb_some, show f_X11_thrown h2 = some (xm_i h2 302 4, h2) from rfl, xb_some, o3, if_pos rfl]
  refine ⟨h2, ?_, o5⟩
  by_cases hv : v = 0
  · rw [if_pos hv, o4 hv, if_pos ((lg_cmp_eq _ _).mpr rfl)]
  · rw [if_neg hv]
theorem lc_20 (hN : 20000 ≤ N) (hL : L ≤ 3072) (hc : c + 6 ≤ L) (hI : zInv ρ δ nc nt nf na n nv ne la nb bo no cap L xs h) : ∃ h2, f_L_law_c20 N ρ δ rec (nI c) h = rec (nI c + 6) h2 ∧ zPo L xs h h2 := by
  have hn := hI.n
  have hk := zlk hI
  have O : zOp (f_L_leastBid N ρ (xm_i h 0 (Int32.toNatClampNeg (nI c + (1 : Int32)))) (xm_i h 0 (Int32.toNatClampNeg (nI c + (2 : Int32)))) (xm_i h 0 (Int32.toNatClampNeg (nI c + (3 : Int32)))) (xm_i h 0 (Int32.toNatClampNeg (nI c + (4 : Int32)))) h) (f_X11_leastBid N (xm_i h 0 (Int32.toNatClampNeg (nI c + (1 : Int32)))) (xm_i h 0 (Int32.toNatClampNeg (nI c + (2 : Int32)))) (xm_i h 0 (Int32.toNatClampNeg (nI c + (3 : Int32)))) (xm_i h 0 (Int32.toNatClampNeg (nI c + (4 : Int32))))) (zPo L xs h) := (zo_leastBid (by omega) hI).mono (fun g hg => zRO.po hI hg)
  obtain ⟨v, h1, b, h2, o1, o2, o3, o4, o5⟩ := O
  have co := xm_Rn_co _ _ _ _ _ _ (t_L_leastBid hI.1 o1).1 (by omega)
  have hk1 : xm_k h1 0 = (100, L) := (co.2 0 (by omega)).1.trans hk
  have hi1 : ∀ j, xm_i h1 0 j = xm_i h 0 j := (co.2 0 (by omega)).2
  unfold f_L_law_c20
  rw [if_pos (by rw [hk]), if_pos (show xin (nI c + (1 : Int32)) (xm_k h 0).2 from zlg (k := 1) hk hL hc (by omega)), if_pos (show xin (nI c + (2 : Int32)) (xm_k h 0).2 from zlg (k := 2) hk hL hc (by omega)), if_pos (show xin (nI c + (3 : Int32)) (xm_k h 0).2 from zlg (k := 3) hk hL hc (by omega)), if_pos (show xin (nI c + (4 : Int32)) (xm_k h 0).2 from zlg (k := 4) hk hL hc (by omega)), o1, xb_some, if_pos (by rw [hk1]), if_pos (show xin (nI c + (1 : Int32)) (xm_k h1 0).2 from zlg (k := 1) hk1 hL hc (by omega)), if_pos (show xin (nI c + (2 : Int32)) (xm_k h1 0).2 from zlg (k := 2) hk1 hL hc (by omega)), if_pos (show xin (nI c + (3 : Int32)) (xm_k h1 0).2 from zlg (k := 3) hk1 hL hc (by omega)), if_pos (show xin (nI c + (4 : Int32)) (xm_k h1 0).2 from zlg (k := 4) hk1 hL hc (by omega)), hi1, hi1, hi1, hi1, o2, xb_some, show f_X11_thrown h2 = some (xm_i h2 302 4, h2) from rfl, xb_some, o3, if_pos rfl]
  refine ⟨h2, ?_, o5⟩
  by_cases hv : v = 0
  · rw [if_pos hv, o4 hv, if_pos ((lg_cmp_eq _ _).mpr rfl)]
  · rw [if_neg hv]
theorem lc_21 (hN : 20000 ≤ N) (hL : L ≤ 3072) (hc : c + 6 ≤ L) (hI : zInv ρ δ nc nt nf na n nv ne la nb bo no cap L xs h) : ∃ h2, f_L_law_c21 N ρ δ rec (nI c) h = rec (nI c + 6) h2 ∧ zPo L xs h h2 := by
  have hn := hI.n
  have hk := zlk hI
  have O : zOp (f_L_bestFloor N ρ (xm_i h 0 (Int32.toNatClampNeg (nI c + (1 : Int32)))) (xm_i h 0 (Int32.toNatClampNeg (nI c + (2 : Int32)))) (xm_i h 0 (Int32.toNatClampNeg (nI c + (3 : Int32)))) h) (f_X11_bestFloor N (xm_i h 0 (Int32.toNatClampNeg (nI c + (1 : Int32)))) (xm_i h 0 (Int32.toNatClampNeg (nI c + (2 : Int32)))) (xm_i h 0 (Int32.toNatClampNeg (nI c + (3 : Int32))))) (zPo L xs h) := (zo_bestFloor (by omega) hI).mono (fun g hg => zRO.po hI hg)
  obtain ⟨v, h1, b, h2, o1, o2, o3, o4, o5⟩ := O
  have co := xm_Rn_co _ _ _ _ _ _ (t_L_bestFloor hI.1 o1).1 (by omega)
  have hk1 : xm_k h1 0 = (100, L) := (co.2 0 (by omega)).1.trans hk
  have hi1 : ∀ j, xm_i h1 0 j = xm_i h 0 j := (co.2 0 (by omega)).2
  unfold f_L_law_c21
  rw [if_pos (by rw [hk]), if_pos (show xin (nI c + (1 : Int32)) (xm_k h 0).2 from zlg (k := 1) hk hL hc (by omega)), if_pos (show xin (nI c + (2 : Int32)) (xm_k h 0).2 from zlg (k := 2) hk hL hc (by omega)), if_pos (show xin (nI c + (3 : Int32)) (xm_k h 0).2 from zlg (k := 3) hk hL hc (by omega)), o1, xb_some, if_pos (by rw [hk1]), if_pos (show xin (nI c + (1 : Int32)) (xm_k h1 0).2 from zlg (k := 1) hk1 hL hc (by omega)), if_pos (show xin (nI c + (2 : Int32)) (xm_k h1 0).2 from zlg (k := 2) hk1 hL hc (by omega)), if_pos (show xin (nI c + (3 : Int32)) (xm_k h1 0).2 from zlg (k := 3) hk1 hL hc (by omega)), hi1, hi1, hi1, o2, xb_some, show f_X11_thrown h2 = some (xm_i h2 302 4, h2) from rfl, xb_some, o3, if_pos rfl]
  refine ⟨h2, ?_, o5⟩
  by_cases hv : v = 0
  · rw [if_pos hv, o4 hv, if_pos ((lg_cmp_eq _ _).mpr rfl)]
  · rw [if_neg hv]
theorem lc_22 (hN : 20000 ≤ N) (hL : L ≤ 3072) (hc : c + 6 ≤ L) (hI : zInv ρ δ nc nt nf na n nv ne la nb bo no cap L xs h) : ∃ h2, f_L_law_c22 N ρ δ rec (nI c) h = rec (nI c + 6) h2 ∧ zPo L xs h h2 := by
  have hn := hI.n
  have hk := zlk hI
  have O : zOp (f_L_revenueAfter N ρ (xm_i h 0 (Int32.toNatClampNeg (nI c + (1 : Int32)))) (xm_i h 0 (Int32.toNatClampNeg (nI c + (2 : Int32)))) (xm_i h 0 (Int32.toNatClampNeg (nI c + (3 : Int32)))) h) (f_X11_revenueAfter N (xm_i h 0 (Int32.toNatClampNeg (nI c + (1 : Int32)))) (xm_i h 0 (Int32.toNatClampNeg (nI c + (2 : Int32)))) (xm_i h 0 (Int32.toNatClampNeg (nI c + (3 : Int32))))) (zPo L xs h) := zo_revenueAfter (by omega) hI
  obtain ⟨v, h1, b, h2, o1, o2, o3, o4, o5⟩ := O
  have co := xm_Rn_co _ _ _ _ _ _ (t_L_revenueAfter hI.1 o1).1 (by omega)
  have hk1 : xm_k h1 0 = (100, L) := (co.2 0 (by omega)).1.trans hk
  have hi1 : ∀ j, xm_i h1 0 j = xm_i h 0 j := (co.2 0 (by omega)).2
  unfold f_L_law_c22
  rw [if_pos (by rw [hk]), if_pos (show xin (nI c + (1 : Int32)) (xm_k h 0).2 from zlg (k := 1) hk hL hc (by omega)), if_pos (show xin (nI c + (2 : Int32)) (xm_k h 0).2 from zlg (k := 2) hk hL hc (by omega)), if_pos (show xin (nI c + (3 : Int32)) (xm_k h 0).2 from zlg (k := 3) hk hL hc (by omega)), o1, xb_some, if_pos (by rw [hk1]), if_pos (show xin (nI c + (1 : Int32)) (xm_k h1 0).2 from zlg (k := 1) hk1 hL hc (by omega)), if_pos (show xin (nI c + (2 : Int32)) (xm_k h1 0).2 from zlg (k := 2) hk1 hL hc (by omega)), if_pos (show xin (nI c + (3 : Int32)) (xm_k h1 0).2 from zlg (k := 3) hk1 hL hc (by omega)), hi1, hi1, hi1, o2, xb_some, show f_X11_thrown h2 = some (xm_i h2 302 4, h2) from rfl, xb_some, o3, if_pos rfl]
  refine ⟨h2, ?_, o5⟩
  by_cases hv : v = 0
  · rw [if_pos hv, o4 hv, if_pos ((lg_cmp_eq _ _).mpr rfl)]
  · rw [if_neg hv]
theorem lc_23 (hN : 20000 ≤ N) (hL : L ≤ 3072) (hc : c + 6 ≤ L) (hI : zInv ρ δ nc nt nf na n nv ne la nb bo no cap L xs h) : ∃ h2, f_L_law_c23 N ρ δ rec (nI c) h = rec (nI c + 6) h2 ∧ zPo L xs h h2 := by
  have hn := hI.n
  have hk := zlk hI
  have O : zOp (f_L_multiplierAfter N ρ (xm_i h 0 (Int32.toNatClampNeg (nI c + (1 : Int32)))) (xm_i h 0 (Int32.toNatClampNeg (nI c + (2 : Int32)))) (xm_i h 0 (Int32.toNatClampNeg (nI c + (3 : Int32)))) (xm_i h 0 (Int32.toNatClampNeg (nI c + (4 : Int32)))) h) (f_X11_multiplierAfter N (xm_i h 0 (Int32.toNatClampNeg (nI c + (1 : Int32)))) (xm_i h 0 (Int32.toNatClampNeg (nI c + (2 : Int32)))) (xm_i h 0 (Int32.toNatClampNeg (nI c + (3 : Int32)))) (xm_i h 0 (Int32.toNatClampNeg (nI c + (4 : Int32))))) (zPo L xs h) := zo_multiplierAfter (by omega) hI
  obtain ⟨v, h1, b, h2, o1, o2, o3, o4, o5⟩ := O
  have co := xm_Rn_co _ _ _ _ _ _ (t_L_multiplierAfter hI.1 o1).1 (by omega)
  have hk1 : xm_k h1 0 = (100, L) := (co.2 0 (by omega)).1.trans hk
  have hi1 : ∀ j, xm_i h1 0 j = xm_i h 0 j := (co.2 0 (by omega)).2
  unfold f_L_law_c23
  rw [if_pos (by rw [hk]), if_pos (show xin (nI c + (1 : Int32)) (xm_k h 0).2 from zlg (k := 1) hk hL hc (by omega)), if_pos (show xin (nI c + (2 : Int32)) (xm_k h 0).2 from zlg (k := 2) hk hL hc (by omega)), if_pos (show xin (nI c + (3 : Int32)) (xm_k h 0).2 from zlg (k := 3) hk hL hc (by omega)), if_pos (show xin (nI c + (4 : Int32)) (xm_k h 0).2 from zlg (k := 4) hk hL hc (by omega)), o1, xb_some, if_pos (by rw [hk1]), if_pos (show xin (nI c + (1 : Int32)) (xm_k h1 0).2 from zlg (k := 1) hk1 hL hc (by omega)), if_pos (show xin (nI c + (2 : Int32)) (xm_k h1 0).2 from zlg (k := 2) hk1 hL hc (by omega)), if_pos (show xin (nI c + (3 : Int32)) (xm_k h1 0).2 from zlg (k := 3) hk1 hL hc (by omega)), if_pos (show xin (nI c + (4 : Int32)) (xm_k h1 0).2 from zlg (k := 4) hk1 hL hc (by omega)), hi1, hi1, hi1, hi1, o2, xb_some, show f_X11_thrown h2 = some (xm_i h2 302 4, h2) from rfl, xb_some, o3, if_pos rfl]
  refine ⟨h2, ?_, o5⟩
  by_cases hv : v = 0
  · rw [if_pos hv, o4 hv, if_pos ((lg_cmp_eq _ _).mpr rfl)]
  · rw [if_neg hv]
theorem lc_24 (hN : 20000 ≤ N) (hL : L ≤ 3072) (hc : c + 6 ≤ L) (hI : zInv ρ δ nc nt nf na n nv ne la nb bo no cap L xs h) : ∃ h2, f_L_law_c24 N ρ δ rec (nI c) h = rec (nI c + 6) h2 ∧ zPo L xs h h2 := by
  have hn := hI.n
  have hk := zlk hI
  have O : zOp (f_L_bestMode N ρ (xm_i h 0 (Int32.toNatClampNeg (nI c + (1 : Int32)))) (xm_i h 0 (Int32.toNatClampNeg (nI c + (2 : Int32)))) (xm_i h 0 (Int32.toNatClampNeg (nI c + (3 : Int32)))) (xm_i h 0 (Int32.toNatClampNeg (nI c + (4 : Int32)))) h) (f_X11_bestMode N (xm_i h 0 (Int32.toNatClampNeg (nI c + (1 : Int32)))) (xm_i h 0 (Int32.toNatClampNeg (nI c + (2 : Int32)))) (xm_i h 0 (Int32.toNatClampNeg (nI c + (3 : Int32)))) (xm_i h 0 (Int32.toNatClampNeg (nI c + (4 : Int32))))) (zPo L xs h) := zo_bestMode (by omega) hI
  obtain ⟨v, h1, b, h2, o1, o2, o3, o4, o5⟩ := O
  have co := xm_Rn_co _ _ _ _ _ _ (t_L_bestMode hI.1 o1).1 (by omega)
  have hk1 : xm_k h1 0 = (100, L) := (co.2 0 (by omega)).1.trans hk
  have hi1 : ∀ j, xm_i h1 0 j = xm_i h 0 j := (co.2 0 (by omega)).2
  unfold f_L_law_c24
  rw [if_pos (by rw [hk]), if_pos (show xin (nI c + (1 : Int32)) (xm_k h 0).2 from zlg (k := 1) hk hL hc (by omega)), if_pos (show xin (nI c + (2 : Int32)) (xm_k h 0).2 from zlg (k := 2) hk hL hc (by omega)), if_pos (show xin (nI c + (3 : Int32)) (xm_k h 0).2 from zlg (k := 3) hk hL hc (by omega)), if_pos (show xin (nI c + (4 : Int32)) (xm_k h 0).2 from zlg (k := 4) hk hL hc (by omega)), o1, xb_some, if_pos (by rw [hk1]), if_pos (show xin (nI c + (1 : Int32)) (xm_k h1 0).2 from zlg (k := 1) hk1 hL hc (by omega)), if_pos (show xin (nI c + (2 : Int32)) (xm_k h1 0).2 from zlg (k := 2) hk1 hL hc (by omega)), if_pos (show xin (nI c + (3 : Int32)) (xm_k h1 0).2 from zlg (k := 3) hk1 hL hc (by omega)), if_pos (show xin (nI c + (4 : Int32)) (xm_k h1 0).2 from zlg (k := 4) hk1 hL hc (by omega)), hi1, hi1, hi1, hi1, o2, xb_some, show f_X11_thrown h2 = some (xm_i h2 302 4, h2) from rfl, xb_some, o3, if_pos rfl]
  refine ⟨h2, ?_, o5⟩
  by_cases hv : v = 0
  · rw [if_pos hv, o4 hv, if_pos ((lg_cmp_eq _ _).mpr rfl)]
  · rw [if_neg hv]
theorem lc_25 (hN : 20000 ≤ N) (hL : L ≤ 3072) (hc : c + 6 ≤ L) (hI : zInv ρ δ nc nt nf na n nv ne la nb bo no cap L xs h) : ∃ h2, f_L_law_c25 N ρ δ rec (nI c) h = rec (nI c + 6) h2 ∧ zPo L xs h h2 := by
  have hn := hI.n
  have hk := zlk hI
  have O : zOp (f_L_request N ρ (xm_i h 0 (Int32.toNatClampNeg (nI c + (1 : Int32)))) (xm_i h 0 (Int32.toNatClampNeg (nI c + (2 : Int32)))) (xm_i h 0 (Int32.toNatClampNeg (nI c + (3 : Int32)))) h) (f_X11_request N (xm_i h 0 (Int32.toNatClampNeg (nI c + (1 : Int32)))) (xm_i h 0 (Int32.toNatClampNeg (nI c + (2 : Int32)))) (xm_i h 0 (Int32.toNatClampNeg (nI c + (3 : Int32))))) (zPo L xs h) := zo_request (by omega) hI
  obtain ⟨v, h1, b, h2, o1, o2, o3, o4, o5⟩ := O
  have co := xm_Rn_co _ _ _ _ _ _ (t_L_request hI.1 o1).1 (by omega)
  have hk1 : xm_k h1 0 = (100, L) := (co.2 0 (by omega)).1.trans hk
  have hi1 : ∀ j, xm_i h1 0 j = xm_i h 0 j := (co.2 0 (by omega)).2
  unfold f_L_law_c25
  rw [if_pos (by rw [hk]), if_pos (show xin (nI c + (1 : Int32)) (xm_k h 0).2 from zlg (k := 1) hk hL hc (by omega)), if_pos (show xin (nI c + (2 : Int32)) (xm_k h 0).2 from zlg (k := 2) hk hL hc (by omega)), if_pos (show xin (nI c + (3 : Int32)) (xm_k h 0).2 from zlg (k := 3) hk hL hc (by omega)), o1, xb_some, if_pos (by rw [hk1]), if_pos (show xin (nI c + (1 : Int32)) (xm_k h1 0).2 from zlg (k := 1) hk1 hL hc (by omega)), if_pos (show xin (nI c + (2 : Int32)) (xm_k h1 0).2 from zlg (k := 2) hk1 hL hc (by omega)), if_pos (show xin (nI c + (3 : Int32)) (xm_k h1 0).2 from zlg (k := 3) hk1 hL hc (by omega)), hi1, hi1, hi1, o2, xb_some, show f_X11_thrown h2 = some (xm_i h2 302 4, h2) from rfl, xb_some, o3, if_pos rfl]
  refine ⟨h2, ?_, o5⟩
  by_cases hv : v = 0
  · rw [if_pos hv, o4 hv, if_pos ((lg_cmp_eq _ _).mpr rfl)]
  · rw [if_neg hv]
theorem lc_26 (hN : 20000 ≤ N) (hL : L ≤ 3072) (hc : c + 6 ≤ L) (hI : zInv ρ δ nc nt nf na n nv ne la nb bo no cap L xs h) : ∃ h2, f_L_law_c26 N ρ δ rec (nI c) h = rec (nI c + 6) h2 ∧ zPo L xs h h2 := by
  have hn := hI.n
  have hk := zlk hI
  have O : zOp (f_L_pass N ρ (xm_i h 0 (Int32.toNatClampNeg (nI c + (1 : Int32)))) h) (f_X11_pass N (xm_i h 0 (Int32.toNatClampNeg (nI c + (1 : Int32))))) (zPo L xs h) := zo_pass (by omega) hI
  obtain ⟨v, h1, b, h2, o1, o2, o3, o4, o5⟩ := O
  have co := xm_Rn_co _ _ _ _ _ _ (t_L_pass hI.1 o1).1 (by omega)
  have hk1 : xm_k h1 0 = (100, L) := (co.2 0 (by omega)).1.trans hk
  have hi1 : ∀ j, xm_i h1 0 j = xm_i h 0 j := (co.2 0 (by omega)).2
  unfold f_L_law_c26
  rw [if_pos (by rw [hk]), if_pos (show xin (nI c + (1 : Int32)) (xm_k h 0).2 from zlg (k := 1) hk hL hc (by omega)), o1, xb_some, if_pos (by rw [hk1]), if_pos (show xin (nI c + (1 : Int32)) (xm_k h1 0).2 from zlg (k := 1) hk1 hL hc (by omega)), hi1, o2, xb_some, show f_X11_thrown h2 = some (xm_i h2 302 4, h2) from rfl, xb_some, o3, if_pos rfl]
  refine ⟨h2, ?_, o5⟩
  by_cases hv : v = 0
  · rw [if_pos hv, o4 hv, if_pos ((lg_cmp_eq _ _).mpr rfl)]
  · rw [if_neg hv]
theorem lc_27 (hN : 20000 ≤ N) (hL : L ≤ 3072) (hc : c + 6 ≤ L) (hI : zInv ρ δ nc nt nf na n nv ne la nb bo no cap L xs h) : ∃ h2, f_L_law_c27 N ρ δ rec (nI c) h = rec (nI c + 6) h2 ∧ zPo L xs h h2 := by
  have hn := hI.n
  have hk := zlk hI
  have O : zOp (f_L_convert N ρ (xm_i h 0 (Int32.toNatClampNeg (nI c + (1 : Int32)))) (xm_i h 0 (Int32.toNatClampNeg (nI c + (2 : Int32)))) h) (f_X11_convert N (xm_i h 0 (Int32.toNatClampNeg (nI c + (1 : Int32)))) (xm_i h 0 (Int32.toNatClampNeg (nI c + (2 : Int32))))) (zPo L xs h) := zo_convert (by omega) hI
  obtain ⟨v, h1, b, h2, o1, o2, o3, o4, o5⟩ := O
  have co := xm_Rn_co _ _ _ _ _ _ (t_L_convert hI.1 o1).1 (by omega)
  have hk1 : xm_k h1 0 = (100, L) := (co.2 0 (by omega)).1.trans hk
  have hi1 : ∀ j, xm_i h1 0 j = xm_i h 0 j := (co.2 0 (by omega)).2
  unfold f_L_law_c27
  rw [if_pos (by rw [hk]), if_pos (show xin (nI c + (1 : Int32)) (xm_k h 0).2 from zlg (k := 1) hk hL hc (by omega)), if_pos (show xin (nI c + (2 : Int32)) (xm_k h 0).2 from zlg (k := 2) hk hL hc (by omega)), o1, xb_some, if_pos (by rw [hk1]), if_pos (show xin (nI c + (1 : Int32)) (xm_k h1 0).2 from zlg (k := 1) hk1 hL hc (by omega)), if_pos (show xin (nI c + (2 : Int32)) (xm_k h1 0).2 from zlg (k := 2) hk1 hL hc (by omega)), hi1, hi1, o2, xb_some, show f_X11_thrown h2 = some (xm_i h2 302 4, h2) from rfl, xb_some, o3, if_pos rfl]
  refine ⟨h2, ?_, o5⟩
  by_cases hv : v = 0
  · rw [if_pos hv, o4 hv, if_pos ((lg_cmp_eq _ _).mpr rfl)]
  · rw [if_neg hv]
theorem lc_28 (hN : 20000 ≤ N) (hL : L ≤ 3072) (hc : c + 6 ≤ L) (hI : zInv ρ δ nc nt nf na n nv ne la nb bo no cap L xs h) : ∃ h2, f_L_law_c28 N ρ δ rec (nI c) h = rec (nI c + 6) h2 ∧ zPo L xs h h2 := by
  have hn := hI.n
  have hk := zlk hI
  have O : zOp (f_L_pause ρ (xm_i h 0 (Int32.toNatClampNeg (nI c + (1 : Int32)))) h) (f_X11_pause N (xm_i h 0 (Int32.toNatClampNeg (nI c + (1 : Int32))))) (zPo L xs h) := zo_pause (by omega) hI
  obtain ⟨v, h1, b, h2, o1, o2, o3, o4, o5⟩ := O
  have co := xm_Rn_co _ _ _ _ _ _ (t_L_pause hI.1 o1).1 (by omega)
  have hk1 : xm_k h1 0 = (100, L) := (co.2 0 (by omega)).1.trans hk
  have hi1 : ∀ j, xm_i h1 0 j = xm_i h 0 j := (co.2 0 (by omega)).2
  unfold f_L_law_c28
  rw [if_pos (by rw [hk]), if_pos (show xin (nI c + (1 : Int32)) (xm_k h 0).2 from zlg (k := 1) hk hL hc (by omega)), o1, xb_some, if_pos (by rw [hk1]), if_pos (show xin (nI c + (1 : Int32)) (xm_k h1 0).2 from zlg (k := 1) hk1 hL hc (by omega)), hi1, o2, xb_some, show f_X11_thrown h2 = some (xm_i h2 302 4, h2) from rfl, xb_some, o3, if_pos rfl]
  refine ⟨h2, ?_, o5⟩
  by_cases hv : v = 0
  · rw [if_pos hv, o4 hv, if_pos ((lg_cmp_eq _ _).mpr rfl)]
  · rw [if_neg hv]
theorem lc_29 (hN : 20000 ≤ N) (hL : L ≤ 3072) (hc : c + 6 ≤ L) (hI : zInv ρ δ nc nt nf na n nv ne la nb bo no cap L xs h) : ∃ h2, f_L_law_c29 N ρ δ rec (nI c) h = rec (nI c + 6) h2 ∧ zPo L xs h h2 := by
  have hn := hI.n
  have hk := zlk hI
  have O : zOp (f_L_resume ρ (xm_i h 0 (Int32.toNatClampNeg (nI c + (1 : Int32)))) h) (f_X11_resume N (xm_i h 0 (Int32.toNatClampNeg (nI c + (1 : Int32))))) (zPo L xs h) := zo_resume (by omega) hI
  obtain ⟨v, h1, b, h2, o1, o2, o3, o4, o5⟩ := O
  have co := xm_Rn_co _ _ _ _ _ _ (t_L_resume hI.1 o1).1 (by omega)
  have hk1 : xm_k h1 0 = (100, L) := (co.2 0 (by omega)).1.trans hk
  have hi1 : ∀ j, xm_i h1 0 j = xm_i h 0 j := (co.2 0 (by omega)).2
  unfold f_L_law_c29
  rw [if_pos (by rw [hk]), if_pos (show xin (nI c + (1 : Int32)) (xm_k h 0).2 from zlg (k := 1) hk hL hc (by omega)), o1, xb_some, if_pos (by rw [hk1]), if_pos (show xin (nI c + (1 : Int32)) (xm_k h1 0).2 from zlg (k := 1) hk1 hL hc (by omega)), hi1, o2, xb_some, show f_X11_thrown h2 = some (xm_i h2 302 4, h2) from rfl, xb_some, o3, if_pos rfl]
  refine ⟨h2, ?_, o5⟩
  by_cases hv : v = 0
  · rw [if_pos hv, o4 hv, if_pos ((lg_cmp_eq _ _).mpr rfl)]
  · rw [if_neg hv]
theorem lc_30 (hN : 20000 ≤ N) (hL : L ≤ 3072) (hc : c + 6 ≤ L) (hI : zInv ρ δ nc nt nf na n nv ne la nb bo no cap L xs h) : ∃ h2, f_L_law_c30 N ρ δ rec (nI c) h = rec (nI c + 6) h2 ∧ zPo L xs h h2 := by
  have hn := hI.n
  have hk := zlk hI
  have O : zOp (f_L_setBid ρ (xm_i h 0 (Int32.toNatClampNeg (nI c + (1 : Int32)))) (xm_i h 0 (Int32.toNatClampNeg (nI c + (2 : Int32)))) h) (f_X11_setBid N (xm_i h 0 (Int32.toNatClampNeg (nI c + (1 : Int32)))) (xm_i h 0 (Int32.toNatClampNeg (nI c + (2 : Int32))))) (zPo L xs h) := zo_setBid (by omega) hI
  obtain ⟨v, h1, b, h2, o1, o2, o3, o4, o5⟩ := O
  have co := xm_Rn_co _ _ _ _ _ _ (t_L_setBid hI.1 o1).1 (by omega)
  have hk1 : xm_k h1 0 = (100, L) := (co.2 0 (by omega)).1.trans hk
  have hi1 : ∀ j, xm_i h1 0 j = xm_i h 0 j := (co.2 0 (by omega)).2
  unfold f_L_law_c30
  rw [if_pos (by rw [hk]), if_pos (show xin (nI c + (1 : Int32)) (xm_k h 0).2 from zlg (k := 1) hk hL hc (by omega)), if_pos (show xin (nI c + (2 : Int32)) (xm_k h 0).2 from zlg (k := 2) hk hL hc (by omega)), o1, xb_some, if_pos (by rw [hk1]), if_pos (show xin (nI c + (1 : Int32)) (xm_k h1 0).2 from zlg (k := 1) hk1 hL hc (by omega)), if_pos (show xin (nI c + (2 : Int32)) (xm_k h1 0).2 from zlg (k := 2) hk1 hL hc (by omega)), hi1, hi1, o2, xb_some, show f_X11_thrown h2 = some (xm_i h2 302 4, h2) from rfl, xb_some, o3, if_pos rfl]
  refine ⟨h2, ?_, o5⟩
  by_cases hv : v = 0
  · rw [if_pos hv, o4 hv, if_pos ((lg_cmp_eq _ _).mpr rfl)]
  · rw [if_neg hv]
theorem lc_31 (hN : 20000 ≤ N) (hL : L ≤ 3072) (hc : c + 6 ≤ L) (hI : zInv ρ δ nc nt nf na n nv ne la nb bo no cap L xs h) : ∃ h2, f_L_law_c31 N ρ δ rec (nI c) h = rec (nI c + 6) h2 ∧ zPo L xs h h2 := by
  have hn := hI.n
  have hk := zlk hI
  have O : zOp (f_L_setBudget ρ (xm_i h 0 (Int32.toNatClampNeg (nI c + (1 : Int32)))) (xm_i h 0 (Int32.toNatClampNeg (nI c + (2 : Int32)))) h) (f_X11_setBudget N (xm_i h 0 (Int32.toNatClampNeg (nI c + (1 : Int32)))) (xm_i h 0 (Int32.toNatClampNeg (nI c + (2 : Int32))))) (zPo L xs h) := zo_setBudget (by omega) hI
  obtain ⟨v, h1, b, h2, o1, o2, o3, o4, o5⟩ := O
  have co := xm_Rn_co _ _ _ _ _ _ (t_L_setBudget hI.1 o1).1 (by omega)
  have hk1 : xm_k h1 0 = (100, L) := (co.2 0 (by omega)).1.trans hk
  have hi1 : ∀ j, xm_i h1 0 j = xm_i h 0 j := (co.2 0 (by omega)).2
  unfold f_L_law_c31
  rw [if_pos (by rw [hk]), if_pos (show xin (nI c + (1 : Int32)) (xm_k h 0).2 from zlg (k := 1) hk hL hc (by omega)), if_pos (show xin (nI c + (2 : Int32)) (xm_k h 0).2 from zlg (k := 2) hk hL hc (by omega)), o1, xb_some, if_pos (by rw [hk1]), if_pos (show xin (nI c + (1 : Int32)) (xm_k h1 0).2 from zlg (k := 1) hk1 hL hc (by omega)), if_pos (show xin (nI c + (2 : Int32)) (xm_k h1 0).2 from zlg (k := 2) hk1 hL hc (by omega)), hi1, hi1, o2, xb_some, show f_X11_thrown h2 = some (xm_i h2 302 4, h2) from rfl, xb_some, o3, if_pos rfl]
  refine ⟨h2, ?_, o5⟩
  by_cases hv : v = 0
  · rw [if_pos hv, o4 hv, if_pos ((lg_cmp_eq _ _).mpr rfl)]
  · rw [if_neg hv]
theorem lc_32 (hN : 20000 ≤ N) (hL : L ≤ 3072) (hc : c + 6 ≤ L) (hI : zInv ρ δ nc nt nf na n nv ne la nb bo no cap L xs h) : ∃ h2, f_L_law_c32 N ρ δ rec (nI c) h = rec (nI c + 6) h2 ∧ zPo L xs h h2 := by
  have hn := hI.n
  have hk := zlk hI
  have O : zOp (f_L_setMode ρ (xm_i h 0 (Int32.toNatClampNeg (nI c + (1 : Int32)))) (xm_i h 0 (Int32.toNatClampNeg (nI c + (2 : Int32)))) h) (f_X11_setMode N (xm_i h 0 (Int32.toNatClampNeg (nI c + (1 : Int32)))) (xm_i h 0 (Int32.toNatClampNeg (nI c + (2 : Int32))))) (zPo L xs h) := zo_setMode (by omega) hI
  obtain ⟨v, h1, b, h2, o1, o2, o3, o4, o5⟩ := O
  have co := xm_Rn_co _ _ _ _ _ _ (t_L_setMode hI.1 o1).1 (by omega)
  have hk1 : xm_k h1 0 = (100, L) := (co.2 0 (by omega)).1.trans hk
  have hi1 : ∀ j, xm_i h1 0 j = xm_i h 0 j := (co.2 0 (by omega)).2
  unfold f_L_law_c32
  rw [if_pos (by rw [hk]), if_pos (show xin (nI c + (1 : Int32)) (xm_k h 0).2 from zlg (k := 1) hk hL hc (by omega)), if_pos (show xin (nI c + (2 : Int32)) (xm_k h 0).2 from zlg (k := 2) hk hL hc (by omega)), o1, xb_some, if_pos (by rw [hk1]), if_pos (show xin (nI c + (1 : Int32)) (xm_k h1 0).2 from zlg (k := 1) hk1 hL hc (by omega)), if_pos (show xin (nI c + (2 : Int32)) (xm_k h1 0).2 from zlg (k := 2) hk1 hL hc (by omega)), hi1, hi1, o2, xb_some, show f_X11_thrown h2 = some (xm_i h2 302 4, h2) from rfl, xb_some, o3, if_pos rfl]
  refine ⟨h2, ?_, o5⟩
  by_cases hv : v = 0
  · rw [if_pos hv, o4 hv, if_pos ((lg_cmp_eq _ _).mpr rfl)]
  · rw [if_neg hv]
theorem lc_33 (hN : 20000 ≤ N) (hL : L ≤ 3072) (hc : c + 6 ≤ L) (hI : zInv ρ δ nc nt nf na n nv ne la nb bo no cap L xs h) : ∃ h2, f_L_law_c33 N ρ δ rec (nI c) h = rec (nI c + 6) h2 ∧ zPo L xs h h2 := by
  have hn := hI.n
  have hk := zlk hI
  have O : zOp (f_L_setFloor ρ (xm_i h 0 (Int32.toNatClampNeg (nI c + (1 : Int32)))) (xm_i h 0 (Int32.toNatClampNeg (nI c + (2 : Int32)))) h) (f_X11_setFloor N (xm_i h 0 (Int32.toNatClampNeg (nI c + (1 : Int32)))) (xm_i h 0 (Int32.toNatClampNeg (nI c + (2 : Int32))))) (zPo L xs h) := zo_setFloor (by omega) hI
  obtain ⟨v, h1, b, h2, o1, o2, o3, o4, o5⟩ := O
  have co := xm_Rn_co _ _ _ _ _ _ (t_L_setFloor hI.1 o1).1 (by omega)
  have hk1 : xm_k h1 0 = (100, L) := (co.2 0 (by omega)).1.trans hk
  have hi1 : ∀ j, xm_i h1 0 j = xm_i h 0 j := (co.2 0 (by omega)).2
  unfold f_L_law_c33
  rw [if_pos (by rw [hk]), if_pos (show xin (nI c + (1 : Int32)) (xm_k h 0).2 from zlg (k := 1) hk hL hc (by omega)), if_pos (show xin (nI c + (2 : Int32)) (xm_k h 0).2 from zlg (k := 2) hk hL hc (by omega)), o1, xb_some, if_pos (by rw [hk1]), if_pos (show xin (nI c + (1 : Int32)) (xm_k h1 0).2 from zlg (k := 1) hk1 hL hc (by omega)), if_pos (show xin (nI c + (2 : Int32)) (xm_k h1 0).2 from zlg (k := 2) hk1 hL hc (by omega)), hi1, hi1, o2, xb_some, show f_X11_thrown h2 = some (xm_i h2 302 4, h2) from rfl, xb_some, o3, if_pos rfl]
  refine ⟨h2, ?_, o5⟩
  by_cases hv : v = 0
  · rw [if_pos hv, o4 hv, if_pos ((lg_cmp_eq _ _).mpr rfl)]
  · rw [if_neg hv]
theorem lc_34 (hN : 20000 ≤ N) (hL : L ≤ 3072) (hc : c + 6 ≤ L) (hI : zInv ρ δ nc nt nf na n nv ne la nb bo no cap L xs h) : ∃ h2, f_L_law_c34 N ρ δ rec (nI c) h = rec (nI c + 6) h2 ∧ zPo L xs h h2 := by
  have hn := hI.n
  have hk := zlk hI
  have O : zOq (f_X10_undo  h) (f_X11_undo N) (zPo L xs h) := zo_undo (by omega) hI
  obtain ⟨v, h1, h2, o1, o2, o5⟩ := O
  unfold f_L_law_c34
  rw [o1, xb_some, o2, xb_some, if_pos rfl]
  exact ⟨h2, rfl, o5⟩
theorem lc_35 (hN : 20000 ≤ N) (hL : L ≤ 3072) (hc : c + 6 ≤ L) (hI : zInv ρ δ nc nt nf na n nv ne la nb bo no cap L xs h) : ∃ h2, f_L_law_c35 N ρ δ rec (nI c) h = rec (nI c + 6) h2 ∧ zPo L xs h h2 := by
  have hn := hI.n
  have hk := zlk hI
  have O : zOq (f_X10_impressions  h) f_X11_impressions (zPo L xs h) := (zo_impressions hI).mono (fun g hg => zRO.po hI hg)
  obtain ⟨v, h1, h2, o1, o2, o5⟩ := O
  unfold f_L_law_c35
  rw [o1, xb_some, o2, xb_some, if_pos rfl]
  exact ⟨h2, rfl, o5⟩
theorem lc_36 (hN : 20000 ≤ N) (hL : L ≤ 3072) (hc : c + 6 ≤ L) (hI : zInv ρ δ nc nt nf na n nv ne la nb bo no cap L xs h) : ∃ h2, f_L_law_c36 N ρ δ rec (nI c) h = rec (nI c + 6) h2 ∧ zPo L xs h h2 := by
  have hn := hI.n
  have hk := zlk hI
  have O : zOp (f_L_impression (xm_i h 0 (Int32.toNatClampNeg (nI c + (1 : Int32)))) (xm_i h 0 (Int32.toNatClampNeg (nI c + (2 : Int32)))) h) (f_X11_impression (xm_i h 0 (Int32.toNatClampNeg (nI c + (1 : Int32)))) (xm_i h 0 (Int32.toNatClampNeg (nI c + (2 : Int32))))) (zPo L xs h) := (zo_impression hI).mono (fun g hg => zRO.po hI hg)
  obtain ⟨v, h1, b, h2, o1, o2, o3, o4, o5⟩ := O
  have co := xm_Rn_co _ _ _ _ _ _ (t_L_impression hI.1 o1).1 (by omega)
  have hk1 : xm_k h1 0 = (100, L) := (co.2 0 (by omega)).1.trans hk
  have hi1 : ∀ j, xm_i h1 0 j = xm_i h 0 j := (co.2 0 (by omega)).2
  unfold f_L_law_c36
  rw [if_pos (by rw [hk]), if_pos (show xin (nI c + (1 : Int32)) (xm_k h 0).2 from zlg (k := 1) hk hL hc (by omega)), if_pos (show xin (nI c + (2 : Int32)) (xm_k h 0).2 from zlg (k := 2) hk hL hc (by omega)), o1, xb_some, if_pos (by rw [hk1]), if_pos (show xin (nI c + (1 : Int32)) (xm_k h1 0).2 from zlg (k := 1) hk1 hL hc (by omega)), if_pos (show xin (nI c + (2 : Int32)) (xm_k h1 0).2 from zlg (k := 2) hk1 hL hc (by omega)), hi1, hi1, o2, xb_some, show f_X11_thrown h2 = some (xm_i h2 302 4, h2) from rfl, xb_some, o3, if_pos rfl]
  refine ⟨h2, ?_, o5⟩
  by_cases hv : v = 0
  · rw [if_pos hv, o4 hv, if_pos ((lg_cmp_eq _ _).mpr rfl)]
  · rw [if_neg hv]
theorem lc_37 (hN : 20000 ≤ N) (hL : L ≤ 3072) (hc : c + 6 ≤ L) (hI : zInv ρ δ nc nt nf na n nv ne la nb bo no cap L xs h) : ∃ h2, f_L_law_c37 N ρ δ rec (nI c) h = rec (nI c + 6) h2 ∧ zPo L xs h h2 := by
  have hn := hI.n
  have hk := zlk hI
  have O : zOq (f_X10_revenue N h) (f_X11_revenue N) (zPo L xs h) := (zo_revenue (by omega) hI).mono (fun g hg => zRO.po hI hg)
  obtain ⟨v, h1, h2, o1, o2, o5⟩ := O
  unfold f_L_law_c37
  rw [o1, xb_some, o2, xb_some, if_pos rfl]
  exact ⟨h2, rfl, o5⟩
theorem lc_38 (hN : 20000 ≤ N) (hL : L ≤ 3072) (hc : c + 6 ≤ L) (hI : zInv ρ δ nc nt nf na n nv ne la nb bo no cap L xs h) : ∃ h2, f_L_law_c38 N ρ δ rec (nI c) h = rec (nI c + 6) h2 ∧ zPo L xs h h2 := by
  have hn := hI.n
  have hk := zlk hI
  have O : zOp (f_L_reach N ρ (xm_i h 0 (Int32.toNatClampNeg (nI c + (1 : Int32)))) h) (f_X11_reach N (xm_i h 0 (Int32.toNatClampNeg (nI c + (1 : Int32))))) (zPo L xs h) := (zo_reach (by omega) hI).mono (fun g hg => zRO.po hI hg)
  obtain ⟨v, h1, b, h2, o1, o2, o3, o4, o5⟩ := O
  have co := xm_Rn_co _ _ _ _ _ _ (t_L_reach hI.1 o1).1 (by omega)
  have hk1 : xm_k h1 0 = (100, L) := (co.2 0 (by omega)).1.trans hk
  have hi1 : ∀ j, xm_i h1 0 j = xm_i h 0 j := (co.2 0 (by omega)).2
  unfold f_L_law_c38
  rw [if_pos (by rw [hk]), if_pos (show xin (nI c + (1 : Int32)) (xm_k h 0).2 from zlg (k := 1) hk hL hc (by omega)), o1, xb_some, if_pos (by rw [hk1]), if_pos (show xin (nI c + (1 : Int32)) (xm_k h1 0).2 from zlg (k := 1) hk1 hL hc (by omega)), hi1, o2, xb_some, show f_X11_thrown h2 = some (xm_i h2 302 4, h2) from rfl, xb_some, o3, if_pos rfl]
  refine ⟨h2, ?_, o5⟩
  by_cases hv : v = 0
  · rw [if_pos hv, o4 hv, if_pos ((lg_cmp_eq _ _).mpr rfl)]
  · rw [if_neg hv]
theorem lc_39 (hN : 20000 ≤ N) (hL : L ≤ 3072) (hc : c + 6 ≤ L) (hI : zInv ρ δ nc nt nf na n nv ne la nb bo no cap L xs h) : ∃ h2, f_L_law_c39 N ρ δ rec (nI c) h = rec (nI c + 6) h2 ∧ zPo L xs h h2 := by
  have hn := hI.n
  have hk := zlk hI
  have O : zOpD (f_L_frequency N ρ (xm_i h 0 (Int32.toNatClampNeg (nI c + (1 : Int32)))) h) (f_X11_frequency N (xm_i h 0 (Int32.toNatClampNeg (nI c + (1 : Int32))))) (zPo L xs h) := (zo_frequency (by omega) hI).mono (fun g hg => zRO.po hI hg)
  obtain ⟨v, h1, b, h2, o1, o2, o3, o4, o5⟩ := O
  have co := xm_Rn_co _ _ _ _ _ _ (t_L_frequency hI.1 o1).1 (by omega)
  have hk1 : xm_k h1 0 = (100, L) := (co.2 0 (by omega)).1.trans hk
  have hi1 : ∀ j, xm_i h1 0 j = xm_i h 0 j := (co.2 0 (by omega)).2
  unfold f_L_law_c39
  rw [if_pos (by rw [hk]), if_pos (show xin (nI c + (1 : Int32)) (xm_k h 0).2 from zlg (k := 1) hk hL hc (by omega)), o1, xb_some, if_pos (by rw [hk1]), if_pos (show xin (nI c + (1 : Int32)) (xm_k h1 0).2 from zlg (k := 1) hk1 hL hc (by omega)), hi1, o2, xb_some, show f_X11_thrown h2 = some (xm_i h2 302 4, h2) from rfl, xb_some, o3, if_pos rfl]
  refine ⟨h2, ?_, o5⟩
  by_cases hv : v = 0
  · rw [if_pos hv, o4 hv, zlaw_d]
  · rw [if_neg hv]
theorem lc_40 (hN : 20000 ≤ N) (hL : L ≤ 3072) (hc : c + 6 ≤ L) (hI : zInv ρ δ nc nt nf na n nv ne la nb bo no cap L xs h) : ∃ h2, f_L_law_c40 N ρ δ rec (nI c) h = rec (nI c + 6) h2 ∧ zPo L xs h h2 := by
  have hn := hI.n
  have hk := zlk hI
  have O : zOp (f_L_recent N ρ (xm_i h 0 (Int32.toNatClampNeg (nI c + (1 : Int32)))) (xm_i h 0 (Int32.toNatClampNeg (nI c + (2 : Int32)))) h) (f_X11_recent N (xm_i h 0 (Int32.toNatClampNeg (nI c + (1 : Int32)))) (xm_i h 0 (Int32.toNatClampNeg (nI c + (2 : Int32))))) (zPo L xs h) := (zo_recent (by omega) hI).mono (fun g hg => zRO.po hI hg)
  obtain ⟨v, h1, b, h2, o1, o2, o3, o4, o5⟩ := O
  have co := xm_Rn_co _ _ _ _ _ _ (t_L_recent hI.1 o1).1 (by omega)
  have hk1 : xm_k h1 0 = (100, L) := (co.2 0 (by omega)).1.trans hk
  have hi1 : ∀ j, xm_i h1 0 j = xm_i h 0 j := (co.2 0 (by omega)).2
  unfold f_L_law_c40
  rw [if_pos (by rw [hk]), if_pos (show xin (nI c + (1 : Int32)) (xm_k h 0).2 from zlg (k := 1) hk hL hc (by omega)), if_pos (show xin (nI c + (2 : Int32)) (xm_k h 0).2 from zlg (k := 2) hk hL hc (by omega)), o1, xb_some, if_pos (by rw [hk1]), if_pos (show xin (nI c + (1 : Int32)) (xm_k h1 0).2 from zlg (k := 1) hk1 hL hc (by omega)), if_pos (show xin (nI c + (2 : Int32)) (xm_k h1 0).2 from zlg (k := 2) hk1 hL hc (by omega)), hi1, hi1, o2, xb_some, show f_X11_thrown h2 = some (xm_i h2 302 4, h2) from rfl, xb_some, o3, if_pos rfl]
  refine ⟨h2, ?_, o5⟩
  by_cases hv : v = 0
  · rw [if_pos hv, o4 hv, if_pos ((lg_cmp_eq _ _).mpr rfl)]
  · rw [if_neg hv]
theorem lc_41 (hN : 20000 ≤ N) (hL : L ≤ 3072) (hc : c + 6 ≤ L) (hI : zInv ρ δ nc nt nf na n nv ne la nb bo no cap L xs h) : ∃ h2, f_L_law_c41 N ρ δ rec (nI c) h = rec (nI c + 6) h2 ∧ zPo L xs h h2 := by
  have hn := hI.n
  have hk := zlk hI
  have O : zOq (f_X10_topUser N h) (f_X11_topUser N) (zPo L xs h) := (zo_topUser (by omega) hI).mono (fun g hg => zRO.po hI hg)
  obtain ⟨v, h1, h2, o1, o2, o5⟩ := O
  unfold f_L_law_c41
  rw [o1, xb_some, o2, xb_some, if_pos rfl]
  exact ⟨h2, rfl, o5⟩
theorem lc_42 (hN : 20000 ≤ N) (hL : L ≤ 3072) (hc : c + 6 ≤ L) (hI : zInv ρ δ nc nt nf na n nv ne la nb bo no cap L xs h) : ∃ h2, f_L_law_c42 N ρ δ rec (nI c) h = rec (nI c + 6) h2 ∧ zPo L xs h h2 := by
  have hn := hI.n
  have hk := zlk hI
  have O : zOpD (f_L_meanPrice N ρ (xm_i h 0 (Int32.toNatClampNeg (nI c + (1 : Int32)))) h) (f_X11_meanPrice N (xm_i h 0 (Int32.toNatClampNeg (nI c + (1 : Int32))))) (zPo L xs h) := (zo_meanPrice (by omega) hI).mono (fun g hg => zRO.po hI hg)
  obtain ⟨v, h1, b, h2, o1, o2, o3, o4, o5⟩ := O
  have co := xm_Rn_co _ _ _ _ _ _ (t_L_meanPrice hI.1 o1).1 (by omega)
  have hk1 : xm_k h1 0 = (100, L) := (co.2 0 (by omega)).1.trans hk
  have hi1 : ∀ j, xm_i h1 0 j = xm_i h 0 j := (co.2 0 (by omega)).2
  unfold f_L_law_c42
  rw [if_pos (by rw [hk]), if_pos (show xin (nI c + (1 : Int32)) (xm_k h 0).2 from zlg (k := 1) hk hL hc (by omega)), o1, xb_some, if_pos (by rw [hk1]), if_pos (show xin (nI c + (1 : Int32)) (xm_k h1 0).2 from zlg (k := 1) hk1 hL hc (by omega)), hi1, o2, xb_some, show f_X11_thrown h2 = some (xm_i h2 302 4, h2) from rfl, xb_some, o3, if_pos rfl]
  refine ⟨h2, ?_, o5⟩
  by_cases hv : v = 0
  · rw [if_pos hv, o4 hv, zlaw_d]
  · rw [if_neg hv]
theorem lc_43 (hN : 20000 ≤ N) (hL : L ≤ 3072) (hc : c + 6 ≤ L) (hI : zInv ρ δ nc nt nf na n nv ne la nb bo no cap L xs h) : ∃ h2, f_L_law_c43 N ρ δ rec (nI c) h = rec (nI c + 6) h2 ∧ zPo L xs h h2 := by
  have hn := hI.n
  have hk := zlk hI
  have O : zOq (f_X10_conversions  h) f_X11_conversions (zPo L xs h) := (zo_conversions hI).mono (fun g hg => zRO.po hI hg)
  obtain ⟨v, h1, h2, o1, o2, o5⟩ := O
  unfold f_L_law_c43
  rw [o1, xb_some, o2, xb_some, if_pos rfl]
  exact ⟨h2, rfl, o5⟩
theorem lc_44 (hN : 20000 ≤ N) (hL : L ≤ 3072) (hc : c + 6 ≤ L) (hI : zInv ρ δ nc nt nf na n nv ne la nb bo no cap L xs h) : ∃ h2, f_L_law_c44 N ρ δ rec (nI c) h = rec (nI c + 6) h2 ∧ zPo L xs h h2 := by
  have hn := hI.n
  have hk := zlk hI
  have O : zOpD (f_L_credit N ρ (xm_i h 0 (Int32.toNatClampNeg (nI c + (1 : Int32)))) (xm_i h 0 (Int32.toNatClampNeg (nI c + (2 : Int32)))) h) (f_X11_credit N (xm_i h 0 (Int32.toNatClampNeg (nI c + (1 : Int32)))) (xm_i h 0 (Int32.toNatClampNeg (nI c + (2 : Int32))))) (zPo L xs h) := (zo_credit (by omega) hI).mono (fun g hg => zRO.po hI hg)
  obtain ⟨v, h1, b, h2, o1, o2, o3, o4, o5⟩ := O
  have co := xm_Rn_co _ _ _ _ _ _ (t_L_credit hI.1 o1).1 (by omega)
  have hk1 : xm_k h1 0 = (100, L) := (co.2 0 (by omega)).1.trans hk
  have hi1 : ∀ j, xm_i h1 0 j = xm_i h 0 j := (co.2 0 (by omega)).2
  unfold f_L_law_c44
  rw [if_pos (by rw [hk]), if_pos (show xin (nI c + (1 : Int32)) (xm_k h 0).2 from zlg (k := 1) hk hL hc (by omega)), if_pos (show xin (nI c + (2 : Int32)) (xm_k h 0).2 from zlg (k := 2) hk hL hc (by omega)), o1, xb_some, if_pos (by rw [hk1]), if_pos (show xin (nI c + (1 : Int32)) (xm_k h1 0).2 from zlg (k := 1) hk1 hL hc (by omega)), if_pos (show xin (nI c + (2 : Int32)) (xm_k h1 0).2 from zlg (k := 2) hk1 hL hc (by omega)), hi1, hi1, o2, xb_some, show f_X11_thrown h2 = some (xm_i h2 302 4, h2) from rfl, xb_some, o3, if_pos rfl]
  refine ⟨h2, ?_, o5⟩
  by_cases hv : v = 0
  · rw [if_pos hv, o4 hv, zlaw_d]
  · rw [if_neg hv]
theorem lc_45 (hN : 20000 ≤ N) (hL : L ≤ 3072) (hc : c + 6 ≤ L) (hI : zInv ρ δ nc nt nf na n nv ne la nb bo no cap L xs h) : ∃ h2, f_L_law_c45 N ρ δ rec (nI c) h = rec (nI c + 6) h2 ∧ zPo L xs h h2 := by
  have hn := hI.n
  have hk := zlk hI
  have O : zOq (f_X10_unattributed N h) (f_X11_unattributed N) (zPo L xs h) := (zo_unattributed (by omega) hI).mono (fun g hg => zRO.po hI hg)
  obtain ⟨v, h1, h2, o1, o2, o5⟩ := O
  unfold f_L_law_c45
  rw [o1, xb_some, o2, xb_some, if_pos rfl]
  exact ⟨h2, rfl, o5⟩
theorem lc_46 (hN : 20000 ≤ N) (hL : L ≤ 3072) (hc : c + 6 ≤ L) (hI : zInv ρ δ nc nt nf na n nv ne la nb bo no cap L xs h) : ∃ h2, f_L_law_c46 N ρ δ rec (nI c) h = rec (nI c + 6) h2 ∧ zPo L xs h h2 := by
  have hn := hI.n
  have hk := zlk hI
  have O : zOp (f_L_write N ρ (xm_i h 0 (Int32.toNatClampNeg (nI c + (1 : Int32)))) h) (f_X11_write N (xm_i h 0 (Int32.toNatClampNeg (nI c + (1 : Int32))))) (zPo L xs h) := zo_write (by omega) hI
  obtain ⟨v, h1, b, h2, o1, o2, o3, o4, o5⟩ := O
  have co := xm_Rn_co _ _ _ _ _ _ (t_L_write hI.1 o1).1 (by omega)
  have hk1 : xm_k h1 0 = (100, L) := (co.2 0 (by omega)).1.trans hk
  have hi1 : ∀ j, xm_i h1 0 j = xm_i h 0 j := (co.2 0 (by omega)).2
  unfold f_L_law_c46
  rw [if_pos (by rw [hk]), if_pos (show xin (nI c + (1 : Int32)) (xm_k h 0).2 from zlg (k := 1) hk hL hc (by omega)), o1, xb_some, if_pos (by rw [hk1]), if_pos (show xin (nI c + (1 : Int32)) (xm_k h1 0).2 from zlg (k := 1) hk1 hL hc (by omega)), hi1, o2, xb_some, show f_X11_thrown h2 = some (xm_i h2 302 4, h2) from rfl, xb_some, o3, if_pos rfl]
  refine ⟨h2, ?_, o5⟩
  by_cases hv : v = 0
  · rw [if_pos hv, o4 hv, if_pos ((lg_cmp_eq _ _).mpr rfl)]
  · rw [if_neg hv]
theorem lc_47 (hN : 20000 ≤ N) (hL : L ≤ 3072) (hc : c + 6 ≤ L) (hI : zInv ρ δ nc nt nf na n nv ne la nb bo no cap L xs h) : ∃ h2, f_L_law_c47 N ρ δ rec (nI c) h = rec (nI c + 6) h2 ∧ zPo L xs h h2 := by
  have hn := hI.n
  have hk := zlk hI
  have O : zOp (f_L_written (xm_i h 0 (Int32.toNatClampNeg (nI c + (1 : Int32)))) h) (f_X11_written (xm_i h 0 (Int32.toNatClampNeg (nI c + (1 : Int32))))) (zPo L xs h) := (zo_written hI).mono (fun g hg => zRO.po hI hg)
  obtain ⟨v, h1, b, h2, o1, o2, o3, o4, o5⟩ := O
  have co := xm_Rn_co _ _ _ _ _ _ (t_L_written hI.1 o1).1 (by omega)
  have hk1 : xm_k h1 0 = (100, L) := (co.2 0 (by omega)).1.trans hk
  have hi1 : ∀ j, xm_i h1 0 j = xm_i h 0 j := (co.2 0 (by omega)).2
  unfold f_L_law_c47
  rw [if_pos (by rw [hk]), if_pos (show xin (nI c + (1 : Int32)) (xm_k h 0).2 from zlg (k := 1) hk hL hc (by omega)), o1, xb_some, if_pos (by rw [hk1]), if_pos (show xin (nI c + (1 : Int32)) (xm_k h1 0).2 from zlg (k := 1) hk1 hL hc (by omega)), hi1, o2, xb_some, show f_X11_thrown h2 = some (xm_i h2 302 4, h2) from rfl, xb_some, o3, if_pos rfl]
  refine ⟨h2, ?_, o5⟩
  by_cases hv : v = 0
  · rw [if_pos hv, o4 hv, if_pos ((lg_cmp_eq _ _).mpr rfl)]
  · rw [if_neg hv]
end Law
