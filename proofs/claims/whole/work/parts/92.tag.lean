/-! load: tag, campaign -/
section Tc
variable {N L δ nc nt nf na x s e κ : Nat} {xs : zV} {W V : Nat → List Nat} {b : Nat → Nat} {h0 k0 hc hr : xm_H}
theorem zL_tag (hN : 1000 ≤ N) (hκ : κ = 1) (hP : zPT b x s e κ hc hr) (hE : zEq hc hr) (hse : s < e) (hV : zV0 L xs δ h0 k0 nc nt nf na W V (nc + nt) hc hr) : zSR L xs δ h0 k0 b x s (f_X5_newTag N δ hc) (zCl N (f_X11_tagStatement N hr)) := by
  have h14 := hV.k14
  have hδ := hV.1.1
  have hnt := hV.2.2.2.1.1.2.1
  have d5 : xm_i hc δ 5 = nI nt := hV.2.2.2.1.2.1.2.2.2.1.trans hV.2.2.2.1.1.2.2.2.2.2.2.1
  have r7 : xm_i hr 307 7 = nI nt := hV.2.2.2.1.1.2.2.2.2.2.2.1
  unfold f_X5_newTag f_X11_tagStatement
  rw [d5, r7]
  by_cases h6 : nt < 6
  · rw [if_pos (show nI nt < (6 : Int32) from nI_lt (b := 6) h6 (by omega)), if_neg (show ¬ nI nt = (6 : Int32) from fun z => absurd ((nI_eq (b := 6) (by omega) (by omega)).mp z) (by omega))]
    obtain ⟨hc1, hr1, s1, e1, κ1, a1, a2, a3, a4, P1, E1, a7⟩ := zL_adv hN hP hE
    have V1 := hV.st1 a3 a4
    have D1 := V1.2.2.2.1
    have hs1 := P1.1.1
    have d5' : xm_i hc1 δ 5 = nI nt := D1.2.1.2.2.2.1.trans D1.1.2.2.2.2.2.2.1
    have r7' : xm_i hr1 307 7 = nI nt := D1.1.2.2.2.2.2.2.1
    obtain ⟨j, hR⟩ := zRun_ex (P := fun t => ¬ (κ1 = 1 ∧ W t = zWd b s1 (e1 - s1))) (x := nt) nt 0 (by omega)
    have hj := hR.2.1
    have hfc := zc_findTag hN P1.1 P1.2.1 d5' hnt D1.2.2.2.1 hR
    have hfr : κ1 = 1 → f_X11_find N 309 (nI nt) (xm_l hr1 302 16) hr1 = some (if j = nt then -1 else nI j, hr1) := fun hk => by
      rw [P1.2.2.2.2.2.2.2.2 hk]
      exact zs_find hN P1.1 hk ((V1.2.2.1.k 309).trans V1.1.2.2.2.2.2.1) hnt (by omega) D1.2.2.2.1 hR
    rw [a1, a2, xb_some, xb_some, d5', r7', if_pos (zb_in h6 (by decide)), nI_clamp (by omega), hfc, xb_some]
    rcases zL_nam (a0 := δ + 3 + nt) (r := 309) (m := nt) (q := 6) hN (Or.inr ⟨h6, rfl, rfl, rfl, rfl⟩) hj hfr P1 E1 V1 with hb | ⟨hc2, hc3, hr3, s3, e3, κ3, a, w, hjm, n1, n2, n3, n4, P3, E3, n7, V3, w1, w2, w3, w4, w5, w6⟩
    · refine zSR.bad (by omega) V1 ?_
      obtain ⟨hc', hr', c1, c2, c3, c4, c5⟩ := hb
      refine ⟨hc', hr', by rw [c1, xb_some, if_pos rfl], ?_, c3, c4, c5⟩
      unfold zCl
      rw [c2, xb_some, if_pos rfl, xb_some, if_pos rfl]
    · have D3 := V3.2.2.2.1
      have hs3 := P3.1.1
      have r7'' : xm_i hr3 307 7 = nI nt := D3.1.2.2.2.2.2.2.1
      rw [if_pos hjm, n1, xb_some, if_neg (show ¬ (1 : Int32) = 0 by decide), n2, xb_some]
      simp only [xl]
      rw [n3, xb_some, n4, xb_some, if_neg (show ¬ (1 : Int32) = 0 by decide), r7'', show (8 : Int32) + nI nt = nI (8 + nt) from nI_add 8 nt]
      rcases zL_fld (a0 := δ + 3 + nt) (i := 8 + nt) (f := 1) (x1 := 0) (x2 := 999) (lo := 0) (hi := 999) hN rfl rfl rfl (by omega) (by omega) (Or.inr ⟨h6, rfl⟩) (by unfold zB8; omega) (by omega) P3 E3 V3 with hb | ⟨hc4, hr4, s4, e4, κ4, v, m1, m2, m3, m4, m5, m6, P4, E4, V4, F4, G4, m7⟩
      · refine zSR.bad (by omega) V3 ?_
        obtain ⟨hc', hr', c1, c2, c3, c4, c5⟩ := hb
        refine ⟨hc', hr', by rw [c1, xb_some, if_pos rfl], ?_, c3, c4, c5⟩
        unfold zCl
        rw [c2, xb_some, if_pos rfl, xb_some, if_pos rfl]
      · have hn4 := V4.ncl
        have D4 := V4.2.2.2.1
        have d5q : xm_i (xm_si hc4 (δ + 3 + nt) 1 (nI v)) δ 5 = nI nt := D4.2.1.2.2.2.1.trans D4.1.2.2.2.2.2.2.1
        have r7q : xm_i hr4 307 7 = nI nt := D4.1.2.2.2.2.2.2.1
        rw [m1, xb_some, if_neg (show ¬ (1 : Int32) = 0 by decide), m2, d5q, m3, xb_some, if_neg (show ¬ (1 : Int32) = 0 by decide), r7q, nI_1]
        unfold zCl
        rw [xb_some, if_neg (by decide)]
        have V5 := V4.tag (a := a) (a2 := a + 1) (v := v) h6 w1 w2 (by rw [F4.r]; exact w3) w4 (by omega) (w5.fx F4.x (fun k z => by have := hV.1.2.1; unfold zCA at z; omega) (fun k z => by have := hV.1.2.1; unfold zCA at z; omega)) (by rw [G4.l (fun z => by unfold zTM at z; omega)]; exact w6) xi_eq m7 m6
        have F5 : zF (fun a k => a = δ ∧ k = 5) (xm_si hc4 (δ + 3 + nt) 1 (nI v)) (xm_si (xm_si hc4 (δ + 3 + nt) 1 (nI v)) δ 5 (nI (nt + 1))) := zF.si ⟨rfl, rfl⟩
        have G5 : zFm (fun a k => a = 307 ∧ k = 7) (fun _ _ => False) hr4 (xm_si hr4 307 7 (nI (nt + 1))) := (zF.si ⟨rfl, rfl⟩).fm
        exact zL_end hN (P4.fr (R := fun _ _ => False) F5.xr G5 hn4 (fun a k z1 z => by omega) (fun a k z1 z => by omega) (fun z => z)) (E4.fr (R := fun _ _ => False) F5.xr G5 hn4 (fun k z1 z => by omega) (fun k z1 z => by omega)) (by omega) V5
  · rw [if_neg (show ¬ nI nt < (6 : Int32) from nI_nlt (b := 6) (by omega) (by omega)), if_pos (show nI nt = (6 : Int32) by rw [show nt = 6 by omega]; rfl)]
    exact zSR.bad (by omega) hV (zFb.sg (N := N) (n := 5) (by omega) hP)
theorem zL_cmp (hN : 1000 ≤ N) (hκ : κ = 1) (hP : zPT b x s e κ hc hr) (hE : zEq hc hr) (hse : s < e) (hV : zV0 L xs δ h0 k0 nc nt nf na W V (nc + nt) hc hr) : zSR L xs δ h0 k0 b x s (f_X5_newCampaign N δ hc) (zCl N (f_X11_campaignStatement N hr)) := by
  have h14 := hV.k14
  have hδ := hV.1.1
  have hnt := hV.2.2.2.1.1.2.1
  have hnc := hV.2.2.2.1.1.1
  have d5 : xm_i hc δ 7 = nI nc := hV.2.2.2.1.2.1.2.2.2.2.1.trans hV.2.2.2.1.1.2.2.2.2.2.1
  have r7 : xm_i hr 307 14 = nI nc := hV.2.2.2.1.1.2.2.2.2.2.1
  unfold f_X5_newCampaign f_X11_campaignStatement
  rw [d5, r7]
  by_cases h6 : nc < 8
  · rw [if_pos (show nI nc < (8 : Int32) from nI_lt (b := 8) h6 (by omega)), if_neg (show ¬ nI nc = (8 : Int32) from fun z => absurd ((nI_eq (b := 8) (by omega) (by omega)).mp z) (by omega))]
    obtain ⟨hc1, hr1, s1, e1, κ1, a1, a2, a3, a4, P1, E1, a7⟩ := zL_adv hN hP hE
    have V1 := hV.st1 a3 a4
    have D1 := V1.2.2.2.1
    have hs1 := P1.1.1
    have d5' : xm_i hc1 δ 7 = nI nc := D1.2.1.2.2.2.2.1.trans D1.1.2.2.2.2.2.1
    obtain ⟨j, hR⟩ := zRun_ex (P := fun t => ¬ (κ1 = 1 ∧ V t = zWd b s1 (e1 - s1))) (x := nc) nc 0 (by omega)
    have hj := hR.2.1
    have hfc := zc_findCampaign hN P1.1 P1.2.1 d5' hnc D1.2.2.2.2.1 hR
    have hfr : κ1 = 1 → f_X11_find N 310 (nI nc) (xm_l hr1 302 16) hr1 = some (if j = nc then -1 else nI j, hr1) := fun hk => by
      rw [P1.2.2.2.2.2.2.2.2 hk]
      exact zs_find hN P1.1 hk ((V1.2.2.1.k 310).trans V1.1.2.2.2.2.2.2) hnc (by omega) D1.2.2.2.2.1 hR
    rw [a1, a2, xb_some, xb_some, d5', if_pos (zb_in h6 (by decide)), nI_clamp (by omega), hfc, xb_some]
    rcases zL_nam (a0 := δ + 10 + nc) (r := 310) (m := nc) (q := 8) hN (Or.inl ⟨h6, rfl, rfl, rfl, rfl⟩) hj hfr P1 E1 V1 with hb | ⟨hc2, hc3, hr3, s3, e3, κ3, a, w, hjm, n1, n2, n3, n4, P3, E3, n7, V3, w1, w2, w3, w4, w5, w6⟩
    · refine zSR.bad (by omega) V1 ?_
      obtain ⟨hc', hr', c1, c2, c3, c4, c5⟩ := hb
      refine ⟨hc', hr', by rw [c1, xb_some, if_pos rfl], ?_, c3, c4, c5⟩
      unfold zCl
      rw [c2, xb_some, if_pos rfl, xb_some, if_pos rfl]
    · have hs3 := P3.1.1
      rw [if_pos hjm, n1, xb_some, if_neg (show ¬ (1 : Int32) = 0 by decide), n2, xb_some]
      simp only [xl]
      rw [n3, xb_some, n4, xb_some, if_neg (show ¬ (1 : Int32) = 0 by decide), show (15 : Int32) + nI nc = nI (15 + nc) from nI_add 15 nc, show (23 : Int32) + nI nc = nI (23 + nc) from nI_add 23 nc, show (31 : Int32) + nI nc = nI (31 + nc) from nI_add 31 nc, show (39 : Int32) + nI nc = nI (39 + nc) from nI_add 39 nc]
      -- bid
      rcases zL_fld (a0 := δ + 10 + nc) (i := 15 + nc) (f := 1) (x1 := 1) (x2 := 999) (lo := 1) (hi := 999) hN rfl rfl rfl (by omega) (by omega) (Or.inl ⟨h6, rfl⟩) (by unfold zB8; omega) (by omega) P3 E3 V3 with hb | ⟨hc4, hr4, s4, e4, κ4, v4, m1, m2, m3, m4, m5, m6, P4, E4, V4, F4, G4, m7⟩
      · refine zSR.bad (by omega) V3 ?_
        obtain ⟨hc', hr', c1, c2, c3, c4, c5⟩ := hb
        refine ⟨hc', hr', by rw [c1, xb_some, if_pos rfl], ?_, c3, c4, c5⟩
        unfold zCl
        rw [c2, xb_some, if_pos rfl, xb_some, if_pos rfl]
      have hs4 := P4.1.1
      rw [m1, xb_some, if_neg (show ¬ (1 : Int32) = 0 by decide), m2, m3, xb_some, if_neg (show ¬ (1 : Int32) = 0 by decide)]
      generalize hg4 : xm_si hc4 (δ + 10 + nc) 1 (nI v4) = g4 at P4 E4 V4 F4 ⊢
      have m8 : xm_i g4 (δ + 10 + nc) 1 = nI v4 := by rw [← hg4]; exact xi_eq
      -- budget
      rcases zL_fld (a0 := δ + 10 + nc) (i := 23 + nc) (f := 2) (x1 := 1) (x2 := 9999) (lo := 1) (hi := 9999) hN rfl rfl rfl (by omega) (by omega) (Or.inl ⟨h6, rfl⟩) (by unfold zB8; omega) (by omega) P4 E4 V4 with hb | ⟨hc5, hr5, s5, e5, κ5, v5, o1, o2, o3, o4, o5, o6, P5, E5, V5, F5, G5, o7⟩
      · refine zSR.bad (by omega) V4 ?_
        obtain ⟨hc', hr', c1, c2, c3, c4, c5⟩ := hb
        refine ⟨hc', hr', by rw [c1, xb_some, if_pos rfl], ?_, c3, c4, c5⟩
        unfold zCl
        rw [c2, xb_some, if_pos rfl, xb_some, if_pos rfl]
      have hs5 := P5.1.1
      rw [o1, xb_some, if_neg (show ¬ (1 : Int32) = 0 by decide), o2, o3, xb_some, if_neg (show ¬ (1 : Int32) = 0 by decide)]
      generalize hg5 : xm_si hc5 (δ + 10 + nc) 2 (nI v5) = g5 at P5 E5 V5 F5 ⊢
      have o8 : xm_i g5 (δ + 10 + nc) 2 = nI v5 := by rw [← hg5]; exact xi_eq
      -- cap
      rcases zL_fld (a0 := δ + 10 + nc) (i := 31 + nc) (f := 3) (x1 := 1) (x2 := 9) (lo := 1) (hi := 9) hN rfl rfl rfl (by omega) (by omega) (Or.inl ⟨h6, rfl⟩) (by unfold zB8; omega) (by omega) P5 E5 V5 with hb | ⟨hc6, hr6, s6, e6, κ6, v6, p1, p2, p3, p4, p5, p6, P6, E6, V6, F6, G6, p7⟩
      · refine zSR.bad (by omega) V5 ?_
        obtain ⟨hc', hr', c1, c2, c3, c4, c5⟩ := hb
        refine ⟨hc', hr', by rw [c1, xb_some, if_pos rfl], ?_, c3, c4, c5⟩
        unfold zCl
        rw [c2, xb_some, if_pos rfl, xb_some, if_pos rfl]
      have hs6 := P6.1.1
      rw [p1, xb_some, if_neg (show ¬ (1 : Int32) = 0 by decide), p2, p3, xb_some, if_neg (show ¬ (1 : Int32) = 0 by decide)]
      generalize hg6 : xm_si hc6 (δ + 10 + nc) 3 (nI v6) = g6 at P6 E6 V6 F6 ⊢
      have p8 : xm_i g6 (δ + 10 + nc) 3 = nI v6 := by rw [← hg6]; exact xi_eq
      -- window
      rcases zL_fld (a0 := δ + 10 + nc) (i := 39 + nc) (f := 4) (x1 := 1) (x2 := 999) (lo := 1) (hi := 999) hN rfl rfl rfl (by omega) (by omega) (Or.inl ⟨h6, rfl⟩) (by unfold zB8; omega) (by omega) P6 E6 V6 with hb | ⟨hc7, hr7, s7, e7, κ7, v7, q1, q2, q3, q4, q5, q6, P7, E7, V7, F7, G7, q7⟩
      · refine zSR.bad (by omega) V6 ?_
        obtain ⟨hc', hr', c1, c2, c3, c4, c5⟩ := hb
        refine ⟨hc', hr', by rw [c1, xb_some, if_pos rfl], ?_, c3, c4, c5⟩
        unfold zCl
        rw [c2, xb_some, if_pos rfl, xb_some, if_pos rfl]
      have hs7 := P7.1.1
      rw [q1, xb_some, if_neg (show ¬ (1 : Int32) = 0 by decide), q2, q3, xb_some, if_neg (show ¬ (1 : Int32) = 0 by decide)]
      generalize hg7 : xm_si hc7 (δ + 10 + nc) 4 (nI v7) = g7 at P7 E7 V7 F7 ⊢
      have q8 : xm_i g7 (δ + 10 + nc) 4 = nI v7 := by rw [← hg7]; exact xi_eq
      -- target
      rcases zL_tgt hN h6 P7 E7 V7 with hb | ⟨hc8, hr8, s8, e8, κ8, tg, t1, t2, t3, P8, E8, V8, F8, G8, t4, t5, t6⟩
      · refine zSR.bad (by omega) V7 ?_
        obtain ⟨hc', hr', c1, c2, c3, c4, c5⟩ := hb
        refine ⟨hc', hr', by rw [c1, xb_some, if_pos rfl], ?_, c3, c4, c5⟩
        unfold zCl
        rw [c2, xb_some, if_pos rfl, xb_some, if_pos rfl]
      have hs8 := P8.1.1
      have hn8 := V8.ncl
      rw [t1, xb_some, if_neg (show ¬ (1 : Int32) = 0 by decide), t4, t2, xb_some, if_neg (show ¬ (1 : Int32) = 0 by decide)]
      have F9 : zF (fun a k => a = δ + 10 + nc ∧ 5 ≤ k) hc8 (xm_si (xm_si (xm_si hc8 (δ + 10 + nc) 5 tg) (δ + 10 + nc) 6 0) (δ + 10 + nc) 7 0) := ((zF.si (by omega)).st (by omega)).st (by omega)
      have y5 : xm_i (xm_si (xm_si (xm_si hc8 (δ + 10 + nc) 5 tg) (δ + 10 + nc) 6 0) (δ + 10 + nc) 7 0) (δ + 10 + nc) 5 = tg := by rw [xi_nk (by decide), xi_nk (by decide), xi_eq]
      have y6 : xm_i (xm_si (xm_si (xm_si hc8 (δ + 10 + nc) 5 tg) (δ + 10 + nc) 6 0) (δ + 10 + nc) 7 0) (δ + 10 + nc) 6 = 0 := by rw [xi_nk (by decide), xi_eq]
      have y7 : xm_i (xm_si (xm_si (xm_si hc8 (δ + 10 + nc) 5 tg) (δ + 10 + nc) 6 0) (δ + 10 + nc) 7 0) (δ + 10 + nc) 7 = 0 := xi_eq
      generalize xm_si (xm_si (xm_si hc8 (δ + 10 + nc) 5 tg) (δ + 10 + nc) 6 0) (δ + 10 + nc) 7 0 = g9 at F9 y5 y6 y7 ⊢
      have P9 : zPT b x s8 e8 κ8 g9 hr8 := P8.fr (R := fun _ _ => False) (B := fun _ _ => False) (M := fun _ _ => False) F9.xr zFm.rf hn8 (fun a k z1 z => by omega) (fun a k z1 z => z) (fun z => z)
      have E9 : zEq g9 hr8 := E8.fr (R := fun _ _ => False) (B := fun _ _ => False) (M := fun _ _ => False) F9.xr zFm.rf hn8 (fun k z1 z => by omega) (fun k z1 z => z)
      have V9 : zV0 L xs δ h0 k0 nc nt nf na W V (nc + nt + 1) g9 hr8 := V8.out (R := fun _ _ => False) (B := fun _ _ => False) (M := fun _ _ => False) F9.xr zFm.rf (fun a k z => by unfold zA8; omega) (fun a k z => z.elim) (fun a k z => z.elim) (fun a k z => z.elim) (by rw [F9.n]; exact V8.2.2.2.2.1) (by rw [F9.sz]; exact V8.2.2.2.2.2)
      have hn9 := V9.ncl
      have D9 := V9.2.2.2.1
      have d7q : xm_i g9 δ 7 = nI nc := D9.2.1.2.2.2.2.1.trans D9.1.2.2.2.2.2.1
      have r14q : xm_i hr8 307 14 = nI nc := D9.1.2.2.2.2.2.1
      rw [d7q, r14q, nI_1]
      unfold zCl
      rw [xb_some, if_neg (by decide)]
      -- frames from g3 on
      have c81 : ∀ j, j < 5 → xm_i g9 (δ + 10 + nc) j = xm_i g7 (δ + 10 + nc) j := fun j hj => by rw [F9.i (by omega), F8.i (fun z => by unfold zCA at z; omega)]
      have c1 : xm_i g9 (δ + 10 + nc) 1 = nI v4 := by rw [c81 1 (by omega), F7.i (fun z => by unfold zCA at z; omega), F6.i (fun z => by unfold zCA at z; omega), F5.i (fun z => by unfold zCA at z; omega)]; exact m8
      have c2 : xm_i g9 (δ + 10 + nc) 2 = nI v5 := by rw [c81 2 (by omega), F7.i (fun z => by unfold zCA at z; omega), F6.i (fun z => by unfold zCA at z; omega)]; exact o8
      have c3 : xm_i g9 (δ + 10 + nc) 3 = nI v6 := by rw [c81 3 (by omega), F7.i (fun z => by unfold zCA at z; omega)]; exact p8
      have c4 : xm_i g9 (δ + 10 + nc) 4 = nI v7 := by rw [c81 4 (by omega)]; exact q8
      have e1' : xm_i hr8 307 (15 + nc) = nI v4 := by rw [G8.i (fun z => by unfold zRB at z; omega), G7.i (fun z => by unfold zRB at z; omega), G6.i (fun z => by unfold zRB at z; omega), G5.i (fun z => by unfold zRB at z; omega)]; exact m7
      have e2' : xm_i hr8 307 (23 + nc) = nI v5 := by rw [G8.i (fun z => by unfold zRB at z; omega), G7.i (fun z => by unfold zRB at z; omega), G6.i (fun z => by unfold zRB at z; omega)]; exact o7
      have e3' : xm_i hr8 307 (31 + nc) = nI v6 := by rw [G8.i (fun z => by unfold zRB at z; omega), G7.i (fun z => by unfold zRB at z; omega)]; exact p7
      have e4' : xm_i hr8 307 (39 + nc) = nI v7 := by rw [G8.i (fun z => by unfold zRB at z; omega)]; exact q7
      have Ft : zF (fun a k => zCA a k ∨ a = δ + 10 + nc) hc3 g9 := (F4.mono (fun a k z => z.imp id (fun z => z.1))).tr ((F5.mono (fun a k z => z.imp id (fun z => z.1))).tr ((F6.mono (fun a k z => z.imp id (fun z => z.1))).tr ((F7.mono (fun a k z => z.imp id (fun z => z.1))).tr ((F8.mono (fun a k z => Or.inl z)).tr (F9.mono (fun a k z => Or.inr z.1))))))
      have hl : xm_l hr8 310 nc = lN (zPk w) := by rw [G8.l (fun z => by unfold zTM at z; omega), G7.l (fun z => by unfold zTM at z; omega), G6.l (fun z => by unfold zTM at z; omega), G5.l (fun z => by unfold zTM at z; omega), G4.l (fun z => by unfold zTM at z; omega)]; exact w6
      have V10 := V9.cmp (a := a) (a2 := a + 1) (bi := v4) (bu := v5) (ca := v6) (wi := v7) (tg := tg) h6 w1 w2 (by rw [Ft.r]; exact w3) w4 (by omega) (w5.fx Ft.x (fun k z => by have := hV.1.2.1; unfold zCA at z; omega) (fun k z => by have := hV.1.2.1; unfold zCA at z; omega)) hl c1 c2 c3 c4 y5 y6 y7 e1' e2' e3' e4' t5 ⟨m5, m6⟩ ⟨o5, o6⟩ ⟨p5, p6⟩ ⟨q5, q6⟩ t6
      have F10 : zF (fun a k => a = δ ∧ k = 7) g9 (xm_si g9 δ 7 (nI (nc + 1))) := zF.si ⟨rfl, rfl⟩
      have G10 : zFm (fun a k => a = 307 ∧ k = 14) (fun _ _ => False) hr8 (xm_si hr8 307 14 (nI (nc + 1))) := (zF.si ⟨rfl, rfl⟩).fm
      have hk1 : nc + nt + 1 = nc + 1 + nt := by omega
      rw [hk1] at V10
      exact zL_end hN (P9.fr (R := fun _ _ => False) F10.xr G10 hn9 (fun a k z1 z => by omega) (fun a k z1 z => by omega) (fun z => z)) (E9.fr (R := fun _ _ => False) F10.xr G10 hn9 (fun k z1 z => by omega) (fun k z1 z => by omega)) (by omega) V10
  · rw [if_neg (show ¬ nI nc < (8 : Int32) from nI_nlt (b := 8) (by omega) (by omega)), if_pos (show nI nc = (8 : Int32) by rw [show nc = 8 by omega]; rfl)]
    exact zSR.bad (by omega) hV (zFb.sg (N := N) (n := 5) (by omega) hP)
end Tc
