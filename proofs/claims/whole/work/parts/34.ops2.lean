/-! more calls: getters without arguments, effective bids, plans, floors, the auction's answers -/
def zOq (r1 : Option (Int32 × xm_H)) (r2 : xm_H → Option (Int32 × xm_H)) (P : xm_H → Prop) : Prop := ∃ v h1 h2, r1 = some (v, h1) ∧ r2 h1 = some (v, h2) ∧ P h2
theorem zix (x : Int32) {n : Nat} (hn : n ≤ 20000) : (x < 0 ∨ nI n ≤ x) ∨ ∃ j, j < n ∧ x = nI j := by
  rcases pk_ix x (n := n) (by omega) with h1 | h1 | h1
  · exact Or.inl (Or.inl h1)
  · exact Or.inl (Or.inr h1)
  · exact Or.inr h1
theorem zoq_ok {r1 : Option (Int32 × xm_H)} {r2 : xm_H → Option (Int32 × xm_H)} {h h2 : xm_H} {v : Int32} (e1 : r1 = some (v, h)) (e2 : r2 h = some (v, h2)) (e3 : zF zscr h h2) : zOq r1 r2 (zRO h) := ⟨v, h, h2, e1, e2, e3.x, by rw [e3.n]; omega, by rw [e3.sz]; omega⟩
theorem zsM_scr {a k : Nat} (z : zsM a k) : zscr a k := by unfold zsM at z; unfold zscr; omega
theorem zsC_scr {a k : Nat} (z : zsC a k) : zscr a k := by unfold zsC at z; unfold zscr; omega
theorem zrS {h h1 : xm_H} (e : zF zscr h h1) : xm_i h1 303 = xm_i h 303 := e.row (fun k z => by unfold zscr at z; omega)
theorem zrT {h h1 : xm_H} (e : zF zscr h h1) : xm_i h1 308 = xm_i h 308 := e.row (fun k z => by unfold zscr at z; omega)
section Get2
variable {N ρ δ nc nt nf na n nv ne la nb bo no cap L : Nat} {xs : zV} {h : xm_H} {x y z w : Int32}
theorem zo_errorKind (hI : zInv ρ δ nc nt nf na n nv ne la nb bo no cap L xs h) : zOq (f_X10_errorKind h) (f_X11_errorKind) (zRO h) := by
  refine zoq_ok (h2 := xm_si h 302 4 0) rfl ?_ (zF.si zscr4)
  rw [show xm_i h 161 4 = _ from hI.2.2.2.2.2.1.1]
  unfold f_X11_errorKind
  simp only [xl]
  first | rw [xi_ne (by decide)] | rw [xi_nk (by decide)]
theorem zo_errorPosition (hI : zInv ρ δ nc nt nf na n nv ne la nb bo no cap L xs h) : zOq (f_X10_errorPosition h) (f_X11_errorPosition) (zRO h) := by
  refine zoq_ok (h2 := xm_si h 302 4 0) rfl ?_ (zF.si zscr4)
  rw [show xm_i h 161 5 = _ from hI.2.2.2.2.2.1.2]
  unfold f_X11_errorPosition
  simp only [xl]
  first | rw [xi_ne (by decide)] | rw [xi_nk (by decide)]
theorem zo_campaigns (hI : zInv ρ δ nc nt nf na n nv ne la nb bo no cap L xs h) : zOq (f_X10_campaigns ρ h) (f_X11_campaigns) (zRO h) := by
  refine zoq_ok (h2 := xm_si h 302 4 0) rfl ?_ (zF.si zscr4)
  rw [show xm_i h ρ 7 = _ from hI.ra.2.1.2.2.2.2.1]
  unfold f_X11_campaigns
  simp only [xl]
  first | rw [xi_ne (by decide)] | rw [xi_nk (by decide)]
theorem zo_tags (hI : zInv ρ δ nc nt nf na n nv ne la nb bo no cap L xs h) : zOq (f_X10_tags ρ h) (f_X11_tags) (zRO h) := by
  refine zoq_ok (h2 := xm_si h 302 4 0) rfl ?_ (zF.si zscr4)
  rw [show xm_i h ρ 5 = _ from hI.ra.2.1.2.2.2.1]
  unfold f_X11_tags
  simp only [xl]
  first | rw [xi_ne (by decide)] | rw [xi_nk (by decide)]
theorem zo_slots (hI : zInv ρ δ nc nt nf na n nv ne la nb bo no cap L xs h) : zOq (f_X10_slots ρ h) (f_X11_slots) (zRO h) := by
  refine zoq_ok (h2 := xm_si h 302 4 0) rfl ?_ (zF.si zscr4)
  rw [show xm_i h ρ 3 = _ from hI.ra.2.1.2.2.1]
  unfold f_X11_slots
  simp only [xl]
  first | rw [xi_ne (by decide)] | rw [xi_nk (by decide)]
theorem zo_tick (hI : zInv ρ δ nc nt nf na n nv ne la nb bo no cap L xs h) : zOq (f_X10_tick h) (f_X11_tick) (zRO h) := by
  refine zoq_ok (h2 := xm_si h 302 4 0) rfl ?_ (zF.si zscr4)
  rw [show xm_i h 201 0 = _ from hI.ra.2.2.1.1]
  unfold f_X11_tick
  simp only [xl]
  first | rw [xi_ne (by decide)] | rw [xi_nk (by decide)]
theorem zo_impressions (hI : zInv ρ δ nc nt nf na n nv ne la nb bo no cap L xs h) : zOq (f_X10_impressions h) (f_X11_impressions) (zRO h) := by
  refine zoq_ok (h2 := xm_si h 302 4 0) rfl ?_ (zF.si zscr4)
  rw [show xm_i h 201 2 = _ from hI.ra.2.2.1.2.2.1]
  unfold f_X11_impressions
  simp only [xl]
  first | rw [xi_ne (by decide)] | rw [xi_nk (by decide)]
theorem zo_conversions (hI : zInv ρ δ nc nt nf na n nv ne la nb bo no cap L xs h) : zOq (f_X10_conversions h) (f_X11_conversions) (zRO h) := by
  refine zoq_ok (h2 := xm_si h 302 4 0) rfl ?_ (zF.si zscr4)
  rw [show xm_i h 201 3 = _ from hI.ra.2.2.1.2.2.2.1]
  unfold f_X11_conversions
  simp only [xl]
  first | rw [xi_ne (by decide)] | rw [xi_nk (by decide)]
theorem zo_effectiveBid (hI : zInv ρ δ nc nt nf na n nv ne la nb bo no cap L xs h) : zOp (f_L_effectiveBid ρ x h) (f_X11_effectiveBid x) (zRO h) := by
  have hn := hI.n
  have hnc := hI.wt.1
  rcases zix x (n := nc) (by omega) with hx | ⟨c, hc, rfl⟩
  · refine zop_bad (k := 1) (b := 0) zks14 (by decide) ?_ ?_
    · unfold f_L_effectiveBid f_X10_effectiveBid
      rw [zq_C0 hI.c7 hx, xe_inr, xe_inr]
      rfl
    · unfold f_X11_effectiveBid
      rw [zq_isC0 (n := nc) (by rw [xi_new (by omega)]; exact hI.T14) (by omega) hx, xb_some, zs_good0, xb_some]
      rfl
  · refine zop_ok (h1 := h) (v := zEf (xm_i h 303) c) zF.rf ?_ ?_ (zF.si zscr4) xi_eq
    · unfold f_L_effectiveBid f_X10_effectiveBid
      rw [zq_C1 hI.c7 (by omega) hc, xe_inl, zc_pacedBid hI.ra hnc hc, xb_some, xe_inl]
      rfl
    · unfold f_X11_effectiveBid
      rw [zq_isC1 (n := nc) (by exact hI.T14) (by omega) hc, xb_some, zs_good1, xb_some, if_neg (by decide), zs_effective (by omega), xb_some, zU_ot (by decide)]
      rfl
theorem zo_plan (hI : zInv ρ δ nc nt nf na n nv ne la nb bo no cap L xs h) : zOp (f_L_plan ρ x h) (f_X11_plan x) (zRO h) := by
  have hn := hI.n
  have hnc := hI.wt.1
  rcases zix x (n := nc) (by omega) with hx | ⟨c, hc, rfl⟩
  · refine zop_bad (k := 1) (b := 0) zks14 (by decide) ?_ ?_
    · unfold f_L_plan f_X10_plan
      rw [zq_C0 hI.c7 hx, xe_inr, xe_inr]
      rfl
    · unfold f_X11_plan
      rw [zq_isC0 (n := nc) (by rw [xi_new (by omega)]; exact hI.T14) (by omega) hx, xb_some, zs_good0, xb_some]
      rfl
  · refine zop_ok (h1 := h) (v := zPl (xm_i h 303) (xm_i h 308) c) zF.rf ?_ ?_ (zF.si zscr4) xi_eq
    · unfold f_L_plan f_X10_plan
      rw [zq_C1 hI.c7 (by omega) hc, xe_inl, zc_planned hI.ra hnc hI.wt.2.2.2.2.2.2.2.2.2.1 hc, xb_some, xe_inl]
      rfl
    · unfold f_X11_plan
      rw [zq_isC1 (n := nc) (by exact hI.T14) (by omega) hc, xb_some, zs_good1, xb_some, if_neg (by decide), zs_planOf (by omega) (by rw [xi_ne (by decide)]; exact hI.d0), xb_some, zU_ot (by decide), zU_ot (by decide)]
      rfl
theorem zo_floor (hI : zInv ρ δ nc nt nf na n nv ne la nb bo no cap L xs h) : zOp (f_L_floor ρ x h) (f_X11_floor x) (zRO h) := by
  have hn := hI.n
  have hnt := hI.wt.2.1
  rcases zix x (n := nt) (by omega) with hx | ⟨c, hc, rfl⟩
  · refine zop_bad (k := 1) (b := 0) zks14 (by decide) ?_ ?_
    · unfold f_L_floor f_X10_floor
      rw [zq_T0 hI.t5 hx, xe_inr, xe_inr]
      rfl
    · unfold f_X11_floor
      rw [zq_isT0 (n := nt) (by rw [xi_new (by omega)]; exact hI.T7) (by omega) hx, xb_some, zs_good0, xb_some]
      rfl
  · have e0 : xm_i h 202 c = xm_i h 303 (51 + c) := hI.ra.2.2.1.2.2.2.2.1 c hc
    refine zop_ok (h1 := h) (v := xm_i h 303 (51 + c)) zF.rf ?_ ?_ (zF.si zscr4) xi_eq
    · unfold f_L_floor f_X10_floor
      rw [zq_T1 hI.t5 (by omega) hc, xe_inl, if_pos (zb_in (by omega) (by decide)), nI_clamp (by omega), e0, xe_inl]
      rfl
    · unfold f_X11_floor
      rw [zq_isT1 (n := nt) (by exact hI.T7) (by omega) hc, xb_some, zs_good1, xb_some, if_neg (by decide), show (51 : Int32) + nI c = nI (51 + c) from nI_add 51 c, if_pos (zb_in (by omega) (by decide)), nI_clamp (by omega), xi_ne (by decide), xi_sl]
theorem zo_impression (hI : zInv ρ δ nc nt nf na n nv ne la nb bo no cap L xs h) : zOp (f_L_impression x y h) (f_X11_impression x y) (zRO h) := by
  have hn := hI.n
  have h160 := hI.n160
  have e2 : xm_i h 201 2 = nI n := hI.ra.2.2.1.2.2.1.trans hI.ws.2.2.2.1
  have eS : xm_i h 303 1 = nI n := hI.ws.2.2.2.1
  have hb : ∀ g : xm_H, f_X11_between (Int32.toInt64 y) (0 : Int64) (4 : Int64) g = some (zbt y 0 4, g) := fun g => by
    rw [show (0 : Int64) = (0 : Int32).toInt64 from rfl, show (4 : Int64) = (4 : Int32).toInt64 from rfl, zs_btw]
  have ha : ∀ g : xm_H, f_X11_between (Int32.toInt64 x) (0 : Int64) (Int32.toInt64 ((xm_i g 303 1) - (1 : Int32))) g = some (zbt x 0 (xm_i g 303 1 - 1), g) := fun g => by
    rw [show (0 : Int64) = (0 : Int32).toInt64 from rfl, zs_btw]
  rcases zix x (n := n) (by omega) with hx | ⟨c, hc, rfl⟩
  · refine zop_bad (k := 1) (b := 0) zks14 (by decide) ?_ ?_
    · have e1 : f_X10_impression x y h = some (.inr (14, xm_n h), xm_new h (14, 0)) := by
        unfold f_X10_impression
        by_cases h0 : x < 0
        · rw [if_pos h0]
        · rw [if_neg h0, e2, if_neg (zle_nlt (hx.resolve_left h0))]
      unfold f_L_impression
      rw [e1, xe_inr]
      rfl
    · unfold f_X11_impression
      rw [ha, xb_some, hb, xb_some, xi_new (by omega), eS, zbt_0 (hx.imp id (zlt_m1 (by omega))), zs_good_0, xb_some]
      rfl
  · rcases zix y (n := 5) (by omega) with hy | ⟨w, hw, rfl⟩
    · have hy' : y < 0 ∨ 4 < y := hy.imp id (fun z => zlt_m1 (n := 5) (by omega) z)
      refine zop_bad (k := 2) (b := 0) zks15 (by decide) ?_ ?_
      · unfold f_L_impression f_X10_impression
        rw [if_neg (nI_pos (by omega)), e2, if_pos (nI_lt hc (by omega)), zq_R0 hy', xe_inr, xe_inr]
        rfl
      · unfold f_X11_impression
        rw [ha, xb_some, hb, xb_some, xi_new (by omega), eS, zbt_1 (nI_pos (by omega)) (znlt_m1 (by omega) hc), zbt_0 hy', zs_good_1, xb_some]
        rfl
    · obtain ⟨b0, b1, b2, b3, b4⟩ := hI.ra.2.2.2 c hc
      have key : ∀ v, f_X4_part (nI c) (nI w) h = some (v, h) → (∀ g, xm_i g 303 = xm_i h 303 → f_X11_impressionAt (nI c) (nI w) g = some (v, g)) → zOp (f_L_impression (nI c) (nI w) h) (f_X11_impression (nI c) (nI w)) (zRO h) := by
        intro v k1 k2
        refine zop_ok (h1 := h) (v := v) zF.rf ?_ ?_ (zF.si zscr4) xi_eq
        · unfold f_L_impression f_X10_impression
          rw [if_neg (nI_pos (by omega)), e2, if_pos (nI_lt hc (by omega)), zq_R1 (lo := 0) (hi := 4) (nI_pos (by omega)) (nI_nlt (a := 4) (b := w) (by omega) (by omega)), xe_inl, k1, xb_some, xe_inl]
          rfl
        · unfold f_X11_impression
          rw [ha, xb_some, hb, xb_some, xi_sl, eS, zbt_1 (nI_pos (by omega)) (znlt_m1 (by omega) hc), zbt_1 (a := 0) (b := 4) (nI_pos (by omega)) (nI_nlt (a := 4) (b := w) (by omega) (by omega)), zs_good_2, xb_some, if_neg (by decide), k2 _ (by rw [zU_ot (by decide)]; rfl), xb_some]
      match w, hw with
      | 0, _ => exact key (xm_i h 303 (57 + 5 * c)) (by unfold f_X4_part; rw [if_pos rfl, if_pos (zb_in (by omega) (by decide)), nI_clamp (by omega), b0]) (fun g hg => by rw [← hg]; exact zs_im0 (by omega))
      | 1, _ => exact key (xm_i h 303 (57 + 5 * c + 1)) (by unfold f_X4_part; rw [if_neg (by decide), if_pos rfl, if_pos (zb_in (by omega) (by decide)), nI_clamp (by omega), b1]) (fun g hg => by rw [← hg]; exact zs_im1 (by omega))
      | 2, _ => exact key (xm_i h 303 (57 + 5 * c + 2)) (by unfold f_X4_part; rw [if_neg (by decide), if_neg (by decide), if_pos rfl, if_pos (zb_in (by omega) (by decide)), nI_clamp (by omega), b2]) (fun g hg => by rw [← hg]; exact zs_im2 (by omega))
      | 3, _ => exact key (xm_i h 303 (57 + 5 * c + 3)) (by unfold f_X4_part; rw [if_neg (by decide), if_neg (by decide), if_neg (by decide), if_pos rfl, if_pos (zb_in (by omega) (by decide)), nI_clamp (by omega), b3]) (fun g hg => by rw [← hg]; exact zs_im3 (by omega))
      | 4, _ => exact key (xm_i h 303 (57 + 5 * c + 4)) (by unfold f_X4_part; rw [if_neg (by decide), if_neg (by decide), if_neg (by decide), if_neg (by decide), if_pos (zb_in (by omega) (by decide)), nI_clamp (by omega), b4]) (fun g hg => by rw [← hg]; exact zs_im4 (by omega))
theorem zo_refusal (hN : 1000 ≤ N) (hI : zInv ρ δ nc nt nf na n nv ne la nb bo no cap L xs h) : zOp (f_L_refusal N ρ x y z h) (f_X11_refusal N x y z) (zRO h) := by
  have hn := hI.n
  have hnc := hI.wt.1
  have hnt := hI.wt.2.1
  have hn400 := hI.ws.1
  rcases zix x (n := nc) (by omega) with hx | ⟨c, hc, rfl⟩
  · refine zop_bad (k := 1) (b := 0) zks14 (by decide) ?_ ?_
    · unfold f_L_refusal f_X10_refusal
      rw [zq_C0 hI.c7 hx, xe_inr, xe_inr]
      rfl
    · unfold f_X11_refusal
      rw [zq_isC0 (n := nc) (by rw [xi_new (by omega)]; exact hI.T14) (by omega) hx, xb_some, if_pos rfl, zs_isUser, xb_some, zs_good_0, xb_some]
      rfl
  rcases zix z (n := nt) (by omega) with hz | ⟨t, ht, rfl⟩
  · refine zop_bad (k := 1) (b := 0) zks14 (by decide) ?_ ?_
    · unfold f_L_refusal f_X10_refusal
      rw [zq_C1 hI.c7 (by omega) hc, xe_inl, zq_T0 hI.t5 hz, xe_inr, xe_inr]
      rfl
    · unfold f_X11_refusal
      rw [zq_isC1 (n := nc) (by rw [xi_new (by omega)]; exact hI.T14) (by omega) hc, xb_some, if_neg (by decide), zq_isT0 (n := nt) (by rw [xi_new (by omega)]; exact hI.T7) (by omega) hz, xb_some, if_pos rfl, zs_isUser, xb_some, zs_good_0, xb_some]
      rfl
  rcases zix y (n := 16) (by omega) with hy | ⟨u, hu, rfl⟩
  · refine zop_bad (k := 2) (b := 0) zks15 (by decide) ?_ ?_
    · unfold f_L_refusal f_X10_refusal
      rw [zq_C1 hI.c7 (by omega) hc, xe_inl, zq_T1 hI.t5 (by omega) ht, xe_inl, zq_U0 hy, xe_inr, xe_inr]
      rfl
    · unfold f_X11_refusal
      rw [zq_isC1 (n := nc) (by rw [xi_new (by omega)]; exact hI.T14) (by omega) hc, xb_some, if_neg (by decide), zq_isT1 (n := nt) (by rw [xi_new (by omega)]; exact hI.T7) (by omega) ht, xb_some, if_neg (by decide), zq_isU0 hy, xb_some, zs_good_1, xb_some]
      rfl
  obtain ⟨h1, c1, c2, c3⟩ := zc_countRecents (u := nI u) hN hI.ra hI.wt hI.ws
  have hF : zF zscr h h1 := c2.mono (fun a k z => by unfold zscr; omega)
  have hR1 := hI.ra.fr (c2.mono (fun a k z => Or.inl z)) hnc
  have e202 : xm_i h1 202 t = xm_i h 303 (51 + t) := hR1.2.2.1.2.2.2.2.1 t ht
  have hgS : ∀ v, xm_i (xm_si (xm_sl h1 316 0 v) 302 4 0) 303 = xm_i h 303 := fun v => by rw [zU_ot (by decide), xi_sl, zrS hF]
  have hgT : ∀ v, xm_i (xm_si (xm_sl h1 316 0 v) 302 4 0) 308 = xm_i h 308 := fun v => by rw [zU_ot (by decide), xi_sl, zrT hF]
  refine zop_ok (h1 := h1) (v := zRf (xm_i h 303) (xm_i h 308) (nI (zRc (xm_i h 303) (xm_i h 308) c (nI u) n)) c (nI t) (zEf (xm_i h 303) c) (xm_i h 303 (51 + t))) hF ?_ ?_ (zF.si zscr4) xi_eq
  · unfold f_L_refusal f_X10_refusal
    rw [zq_C1 hI.c7 (by omega) hc, xe_inl, zq_T1 hI.t5 (by omega) ht, xe_inl, zq_U1 hu, xe_inl, c1, xb_some, zc_pacedBid hR1 hnc hc, xb_some, if_pos (zb_in (by omega) (by decide)), nI_clamp (by omega), e202, zc_reason hR1 hnc hI.wt.2.2.2.2.2.2.2.2.2.1 (hI.ws.2.2.2.2.2.1 c hc).2.2.2.2.2 hc (c3 c hc), xb_some, xe_inl]
    rfl
  · have hrf := fun v => zs_refusalOf (N := N) (n := n) (c := c) (t := t) (u := nI u) (h := xm_si (xm_sl h1 316 0 v) 302 4 0) hN (by omega) (by omega) hn400 (by rw [hgS]; exact hI.ws.2.2.2.1) (by rw [hgT]; exact hI.d0)
    unfold f_X11_refusal
    rw [zq_isC1 (n := nc) (by rw [xi_sl, zrT hF]; exact hI.T14) (by omega) hc, xb_some, if_neg (by decide), zq_isT1 (n := nt) (by rw [xi_sl, zrT hF]; exact hI.T7) (by omega) ht, xb_some, if_neg (by decide), zq_isU1 hu, xb_some, zs_good_2, xb_some, if_neg (by decide), hrf, xb_some, hgS, hgT]
theorem zo_recent (hN : 1000 ≤ N) (hI : zInv ρ δ nc nt nf na n nv ne la nb bo no cap L xs h) : zOp (f_L_recent N ρ x y h) (f_X11_recent N x y) (zRO h) := by
  have hn := hI.n
  have hnc := hI.wt.1
  have hn400 := hI.ws.1
  rcases zix x (n := nc) (by omega) with hx | ⟨c, hc, rfl⟩
  · refine zop_bad (k := 1) (b := 0) zks14 (by decide) ?_ ?_
    · unfold f_L_recent f_X10_recent
      rw [zq_C0 hI.c7 hx, xe_inr, xe_inr]
      rfl
    · unfold f_X11_recent
      rw [zq_isC0 (n := nc) (by rw [xi_new (by omega)]; exact hI.T14) (by omega) hx, xb_some, zs_isUser, xb_some, zs_good_0, xb_some]
      rfl
  rcases zix y (n := 16) (by omega) with hy | ⟨u, hu, rfl⟩
  · refine zop_bad (k := 2) (b := 0) zks15 (by decide) ?_ ?_
    · unfold f_L_recent f_X10_recent
      rw [zq_C1 hI.c7 (by omega) hc, xe_inl, zq_U0 hy, xe_inr, xe_inr]
      rfl
    · unfold f_X11_recent
      rw [zq_isC1 (n := nc) (by rw [xi_new (by omega)]; exact hI.T14) (by omega) hc, xb_some, zq_isU0 hy, xb_some, zs_good_1, xb_some]
      rfl
  obtain ⟨h1, c1, c2, c3⟩ := zc_countRecents (u := nI u) hN hI.ra hI.wt hI.ws
  have hF : zF zscr h h1 := c2.mono (fun a k z => by unfold zscr; omega)
  have hgS : ∀ v, xm_i (xm_si (xm_sl h1 316 0 v) 302 4 0) 303 = xm_i h 303 := fun v => by rw [zU_ot (by decide), xi_sl, zrS hF]
  have hgT : ∀ v, xm_i (xm_si (xm_sl h1 316 0 v) 302 4 0) 308 = xm_i h 308 := fun v => by rw [zU_ot (by decide), xi_sl, zrT hF]
  refine zop_ok (h1 := h1) (v := nI (zRc (xm_i h 303) (xm_i h 308) c (nI u) n)) hF ?_ ?_ (zF.si zscr4) xi_eq
  · unfold f_L_recent f_X10_recent
    rw [zq_C1 hI.c7 (by omega) hc, xe_inl, zq_U1 hu, xe_inl, c1, xb_some, if_pos (zb_in (by omega) (by decide)), nI_clamp (by omega), c3 c hc, xe_inl]
    rfl
  · have hrf := fun v => zs_recentOf (N := N) (n := n) (c := c) (u := nI u) (h := xm_si (xm_sl h1 316 0 v) 302 4 0) hN (by omega) hn400 (by rw [hgS]; exact hI.ws.2.2.2.1)
    unfold f_X11_recent
    rw [zq_isC1 (n := nc) (by rw [xi_sl, zrT hF]; exact hI.T14) (by omega) hc, xb_some, zq_isU1 hu, xb_some, zs_good_2, xb_some, if_neg (by decide), hrf, xb_some, hgS, hgT]
end Get2
