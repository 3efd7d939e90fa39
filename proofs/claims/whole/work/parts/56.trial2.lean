/-! trials: multiplierAfter, bestMode -/
section Tr2
variable {N ρ δ nc nt nf na n nv ne la nb bo no cap L t k tk : Nat} {xs : zV} {S T : zV} {h g h1 h2 hc hm : xm_H} {u v x y z w : Int32}
theorem zo_multiplierAfter (hN : 20000 ≤ N) (hI : zInv ρ δ nc nt nf na n nv ne la nb bo no cap L xs h) : zOp (f_L_multiplierAfter N ρ w x y z h) (f_X11_multiplierAfter N w x y z) (zPo L xs h) := by
  have hn := hI.n
  have hnc := hI.wt.1
  have hnt := hI.wt.2.1
  have hnf := hI.wt.2.2.2.1
  have hn160 := hI.2.2.2.1.2.2.2.1.2.2.1
  obtain ⟨tk, tk1, tk2, tk3⟩ := hI.2.2.2.1.2.2.2.1.2.2.2.1
  have hpz : zPz 201 h := hI.2.2.2.1.2.2.2.1.2.2.2.2.2.1
  rcases zix w (n := nc) (by omega) with hw | ⟨c, hc8, rfl⟩
  · refine (zop_bad (h := h) (k := 1) (b := 0) zks14 (by decide) ?_ ?_).mono (fun g hg => hg.po hI)
    · unfold f_L_multiplierAfter f_X10_multiplierAfter
      rw [zq_C0 hI.c7 hw, xe_inr, xe_inr]
      rfl
    · unfold f_X11_multiplierAfter
      obtain ⟨b, hb⟩ := zs_isAhB y z (xm_new h (14, 0))
      rw [zq_isC0 (n := nc) (by rw [xi_new (by omega)]; exact hI.T14) (by omega) hw, xb_some, if_pos rfl, hb, xb_some, zs_good_0, xb_some]
      rfl
  rcases zix x (n := nt) (by omega) with hx | ⟨t, ht, rfl⟩
  · refine (zop_bad (h := h) (k := 1) (b := 0) zks14 (by decide) ?_ ?_).mono (fun g hg => hg.po hI)
    · unfold f_L_multiplierAfter f_X10_multiplierAfter
      rw [zq_C1 hI.c7 (by omega) hc8, xe_inl, zq_T0 hI.t5 hx, xe_inr, xe_inr]
      rfl
    · unfold f_X11_multiplierAfter
      obtain ⟨b, hb⟩ := zs_isAhB y z (xm_new h (14, 0))
      rw [zq_isC1 (n := nc) (by rw [xi_new (by omega)]; exact hI.T14) (by omega) hc8, xb_some, if_neg (by decide), zq_isT0 (n := nt) (by rw [xi_new (by omega)]; exact hI.T7) (by omega) hx, xb_some, if_pos rfl, hb, xb_some, zs_good_0, xb_some]
      rfl
  rcases zq_ix1 y (n := nf) (by omega) with hy | ⟨k, hk1, hk2, rfl⟩
  · refine (zop_bad (h := h) (k := 2) (b := 0) zks15 (by decide) ?_ ?_).mono (fun g hg => hg.po hI)
    · unfold f_L_multiplierAfter f_X10_multiplierAfter
      rw [zq_C1 hI.c7 (by omega) hc8, xe_inl, zq_T1 hI.t5 (by omega) ht, xe_inl, zq_S0 hI.s3 hy, xe_inr, xe_inr]
      rfl
    · unfold f_X11_multiplierAfter
      rw [zq_isC1 (n := nc) (by rw [xi_new (by omega)]; exact hI.T14) (by omega) hc8, xb_some, if_neg (by decide), zq_isT1 (n := nt) (by rw [xi_new (by omega)]; exact hI.T7) (by omega) ht, xb_some, if_neg (by decide), zs_isAhS (by rw [xi_new (by omega)]; exact hI.T2) hy, xb_some, zs_good_1, xb_some]
      rfl
  rcases zq_ix1 z (n := 60) (by omega) with hz | ⟨m, hm1, hm2, rfl⟩
  · have hz' : z < 1 ∨ 60 < z := hz
    refine (zop_bad (h := h) (k := 2) (b := 0) zks15 (by decide) ?_ ?_).mono (fun g hg => hg.po hI)
    · unfold f_L_multiplierAfter f_X10_multiplierAfter
      rw [zq_C1 hI.c7 (by omega) hc8, xe_inl, zq_T1 hI.t5 (by omega) ht, xe_inl, zq_S1 hI.s3 (by omega) hk1 hk2, xe_inl, zq_R0 hz', xe_inr, xe_inr]
      rfl
    · unfold f_X11_multiplierAfter
      rw [zq_isC1 (n := nc) (by rw [xi_new (by omega)]; exact hI.T14) (by omega) hc8, xb_some, if_neg (by decide), zq_isT1 (n := nt) (by rw [xi_new (by omega)]; exact hI.T7) (by omega) ht, xb_some, if_neg (by decide), zs_isAh0 (by rw [xi_new (by omega)]; exact hI.T2) hnf hk1 hk2 hz', xb_some, zs_good_1, xb_some]
      rfl
  obtain ⟨h1, r1, r2, r3, r4, r5, r6⟩ := zc_bef hnc hnt hI.ra hpz
  obtain ⟨h2, t1, t2, t3⟩ := zc_try (N := N) (m := m) (by omega) r3 hI.wt hI.ws ht hk2 tk3 (by omega) hn160 hm2
  obtain ⟨hc, c1, c2, c3, c4⟩ := zc_aft hnc hnt (t2.mono (fun a q z => z.imp id (fun z => z.imp id (fun z => by omega)))) r4 r5
  have hF : zF (zAn n nv) h hc := (r2.mono (fun a k z => Or.inl (Or.inl (by omega)))).tr ((t2.mono (fun a k z => by
    rcases z with z | z | z
    · exact zsCs_n (Or.inl z)
    · exact zsCs_n (Or.inr z)
    · exact Or.inr (Or.inl (by omega)))).tr (c2.mono (fun a k z => Or.inr (Or.inl z))))
  have hv : xm_i h2 207 c = (zAh (xm_i h 308) na t nc k n (xm_i h 303) m).2 (3 + 6 * c + 3) := (t3.2.2.1.2.2.2.2.2 c hc8).2.2.2.2.1
  have eS : xm_i hc 303 = xm_i h 303 := hF.row (fun k z => by unfold zAn zscr at z; omega)
  have eT : xm_i hc 308 = xm_i h 308 := hF.row (fun k z => by unfold zAn zscr at z; omega)
  have k3 : xm_k hc 303 = (100, 2217) := (hF.k 303).trans (xs_k hI.1 rfl rfl)
  have k4 : xm_k hc 304 = (100, 2217) := (hF.k 304).trans (xs_k hI.1 rfl rfl)
  generalize hV : (zAh (xm_i h 308) na t nc k n (xm_i h 303) m).2 (3 + 6 * c + 3) = V at *
  obtain ⟨g1, s1, s2, s3⟩ := zs_copy (N := N) (a := 303) (b := 304) (h := xm_si (xm_sl hc 316 0 (Int32.toInt64 V)) 302 4 0) hN k3 k4 (by omega) (by omega)
  obtain ⟨g2, u1, u2, u3⟩ := zs_ahead (N := N) (h := g1) (S := xm_i h 303) (T := xm_i h 308) (m := m) (by omega) (by rw [s2.row (fun k z => by omega), zU_ot (by decide), xi_sl, eS]) (by rw [s2.row (fun k z => by omega), zU_ot (by decide), xi_sl, eT]) hI.wt hI.ws ht hk2 tk3 (by omega) hn160 hm2
  obtain ⟨hm, w1, w2, w3⟩ := zs_copy (N := N) (a := 304) (b := 303) (h := g2) hN ((u2.k 304).trans ((s2.k 304).trans k4)) ((u2.k 303).trans ((s2.k 303).trans k3)) (by omega) (by omega)
  refine ztr (v := V) hI hF c3 c4 ?_ (hm := hm) ?_ ?_ ?_ ?_
  · unfold f_L_multiplierAfter f_X10_multiplierAfter
    rw [zq_C1 hI.c7 (by omega) hc8, xe_inl, zq_T1 hI.t5 (by omega) ht, xe_inl, zq_S1 hI.s3 (by omega) hk1 hk2, xe_inl, zpR hm1 hm2, xe_inl, r1, xb_some, t1, xb_some, if_pos (zb_in (by omega) (by decide)), c1, xb_some, xe_inl, nI_clamp (by omega), hv]
    rfl
  · unfold f_X11_multiplierAfter
    rw [zq_isC1 (n := nc) (by rw [xi_sl, eT]; exact hI.T14) (by omega) hc8, xb_some, if_neg (by decide), zq_isT1 (n := nt) (by rw [xi_sl, eT]; exact hI.T7) (by omega) ht, xb_some, if_neg (by decide), zs_isAh1 (by rw [xi_sl, eT]; exact hI.T2) hnf hk1 hk2 hm1 hm2, xb_some, zs_good_2, xb_some, if_neg (by decide), s1, xb_some, u1, xb_some, zs_of3 (by omega), xb_some, w1, xb_some, u3, hV]
  · refine (zF.si (Or.inl zscr4)).tr ((s2.mono (fun a k z => Or.inl ?_)).tr ((u2.mono (fun a k z => zsMs_m z)).tr (w2.mono (fun a k z => Or.inr z))))
    unfold zscr
    omega
  · rw [w2.i (by omega), u2.i (by unfold zsM; omega), s2.i (by omega), xi_eq]
  · funext i
    by_cases hi : i < 2217
    · rw [w3 i hi, u2.i (by unfold zsM; omega), s3 i hi, xi_ne (by decide), xi_sl, eS]
    · rw [w2.i (by omega), u2.i (by unfold zsM; omega), s2.i (by omega), xi_ne (by decide), xi_sl, eS]
end Tr2
