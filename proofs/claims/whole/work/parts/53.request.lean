/-! request -/
section Rq
variable {N ρ δ nc nt nf na n nv ne la nb bo no cap L t k : Nat} {xs : zV} {S T : zV} {h g : xm_H} {u x y z : Int32}
theorem zlsum {a b c : Nat} {c64 : Int64} (hc64 : c64.toInt = c) (ha : a ≤ 20000) (hb : b ≤ 20000) : (0 < lg_cmp ((nI a).toInt64 + (nI b).toInt64) c64) ↔ c < a + b := by
  rw [lg_cmp_gt, nI_l (by omega), nI_l (by omega), Int64.lt_iff_toInt_lt]
  have e1 : (lN a + lN b) = lN (a + b) := by
    unfold lN
    exact (Int64.ofNat_add a b).symm
  rw [e1, lN_toInt (by omega), hc64]
  omega
theorem zsCs_n {n nv a k : Nat} (z : zsC a k ∨ zAs n a k) : zAn n nv a k := by
  rcases z with z | z | z | z
  · exact Or.inl (zsC_scr z)
  · exact Or.inr (Or.inl (by omega))
  · exact Or.inr (Or.inl (by omega))
  · exact Or.inr (Or.inr (Or.inl z))
theorem zsMs_m {a k : Nat} (z : zsM a k ∨ (a = 303 ∧ k < 2217)) : zAm a k := by
  rcases z with z | z
  · exact Or.inl (zsM_scr z)
  · exact Or.inr z
theorem zo_request (hN : 20000 ≤ N) (hI : zInv ρ δ nc nt nf na n nv ne la nb bo no cap L xs h) : zOp (f_L_request N ρ x y z h) (f_X11_request N x y z) (zPo L xs h) := by
  have hn := hI.n
  have hnc := hI.wt.1
  have hnt := hI.wt.2.1
  have hnf := hI.wt.2.2.2.1
  have hn160 := hI.2.2.2.1.2.2.2.1.2.2.1
  have hS1 : xm_i h 303 1 = nI n := hI.ws.2.2.2.1
  have e2 : xm_i h 201 2 = nI n := hI.ra.2.2.1.2.2.1.trans hS1
  rcases zix y (n := nt) (by omega) with hy | ⟨t, ht, rfl⟩
  · refine (zop_bad (h := h) (k := 1) (b := 0) zks14 (by decide) ?_ ?_).mono (fun g hg => hg.po hI)
    · unfold f_L_request f_X10_request
      rw [zq_T0 hI.t5 hy, xe_inr, xe_inr]
      rfl
    · unfold f_X11_request
      obtain ⟨b, hb⟩ := zs_isReq00 (x := x) (y := z) (h := xm_new h (14, 0)) (nf := nf) (by rw [xi_new (by omega)]; exact hI.T2)
      rw [zq_isT0 (n := nt) (by rw [xi_new (by omega)]; exact hI.T7) (by omega) hy, xb_some, hb, xb_some, zs_good__0, zs_good__0]
      simp only [xb_some]
      split
      · rfl
      · rfl
  rcases zix x (n := 16) (by omega) with hx | ⟨u, hu, rfl⟩
  · refine (zop_bad (h := h) (k := 2) (b := 0) zks15 (by decide) ?_ ?_).mono (fun g hg => hg.po hI)
    · unfold f_L_request f_X10_request
      rw [zq_T1 hI.t5 (by omega) ht, xe_inl, zq_U0 hx, xe_inr, xe_inr]
      rfl
    · unfold f_X11_request
      rw [zq_isT1 (n := nt) (by rw [xi_new (by omega)]; exact hI.T7) (by omega) ht, xb_some, zs_isReqU hx, xb_some, zs_good__1, zs_good__1]
      simp only [xb_some]
      split
      · rfl
      · rfl
  rcases zq_ix1 z (n := nf) (by omega) with hz | ⟨k, hk1, hk2, rfl⟩
  · refine (zop_bad (h := h) (k := 2) (b := 0) zks15 (by decide) ?_ ?_).mono (fun g hg => hg.po hI)
    · unfold f_L_request f_X10_request
      rw [zq_T1 hI.t5 (by omega) ht, xe_inl, zq_U1 hu, xe_inl, zq_S0 hI.s3 hz, xe_inr, xe_inr]
      rfl
    · unfold f_X11_request
      rw [zq_isT1 (n := nt) (by rw [xi_new (by omega)]; exact hI.T7) (by omega) ht, xb_some, zs_isReqS hu (by rw [xi_new (by omega)]; exact hI.T2) hz, xb_some, zs_good__1, zs_good__1]
      simp only [xb_some]
      split
      · rfl
      · rfl
  by_cases hov : 160 < n + k
  · refine (zop_bad (h := h) (k := 3) (b := 0) zks16 (by decide) ?_ ?_).mono (fun g hg => hg.po hI)
    · unfold f_L_request f_X10_request
      rw [zq_T1 hI.t5 (by omega) ht, xe_inl, zq_U1 hu, xe_inl, zq_S1 hI.s3 (by omega) hk1 hk2, xe_inl, e2, nI_add, if_pos (show (160 : Int32) < _ from nI_lt (a := 160) hov (by omega)), xe_inr]
      rfl
    · unfold f_X11_request
      rw [zq_isT1 (n := nt) (by rw [xi_new (by omega)]; exact hI.T7) (by omega) ht, xb_some, zs_isReq1 hu (by rw [xi_new (by omega)]; exact hI.T2) hnf hk1 hk2, xb_some, xi_new (by omega), hS1, if_pos ((zlsum (c := 160) rfl (by omega) (by omega)).mpr hov), zs_good__2, xb_some]
      rfl
  obtain ⟨h1, r1, r2, r3, r4⟩ := zc_rem hI
  have hu15 : zB 0 15 (nI u) := zB.nI (by omega) (by omega)
  obtain ⟨hc, c1, c2, c3⟩ := zc_serve (N := N) (u := nI u) (k := k) (by omega) r3 hI.wt hI.ws ht hk2 (by omega)
  have hwl := @zW_len nc na n t k (xm_i h 303) (xm_i h 308) (nI u)
  have hwsv := zSvc_ws (u := nI u) hI.wt hI.ws ht hk2 (by omega) hu15
  have hot := fun (i : Nat) (h1 : i ≠ 1) (h2 : i < 3 ∨ 51 ≤ i) (h3 : i < 57 + 5 * n ∨ 57 + 5 * (n + k) ≤ i) => zSvc_ot (u := nI u) (i := i) h1 (fun c hc => by omega) hI.wt hI.ws ht hk2 h3
  have hFc : zF (zAn n nv) h1 hc := c2.mono (fun a k z => zsCs_n z)
  obtain ⟨hr, s1, s2, s3⟩ := zm_rem (N := N) (v := Int32.toInt64 (nI (zW (xm_i h 303) (xm_i h 308) na n (nI u) t nc k).length)) hN hI r2 hFc
  obtain ⟨hr1, hm, d1, d2, d3, d4, d5⟩ := zs_serve (N := N) (h := hr) (n := n) (nv := nv) (nc := nc) (nt := nt) (nf := nf) (na := na) (t := t) (k := k) (u := nI u) (by omega) (by rw [s3.2.1]; exact hI.wt) (by rw [s3.1]; exact hI.ws) ht hk2 (by omega)
  rw [s3.1, s3.2.1] at d4 d5 d2
  generalize hW : (zW (xm_i h 303) (xm_i h 308) na n (nI u) t nc k).length = m at *
  have X1 : zX (fun a k => zscr a k ∨ (201 ≤ a ∧ a ≤ 208) ∨ (210 ≤ a ∧ a ≤ 214 ∧ n ≤ k) ∨ a = 303 ∨ a = 305 ∨ a = 302 ∨ (234 ≤ a ∧ a ≤ 299)) h h1 := r2.1.x.mono (fun a k z => by unfold zA1 at z; right; omega)
  have X2 : zX (fun a k => zscr a k ∨ (201 ≤ a ∧ a ≤ 208) ∨ (210 ≤ a ∧ a ≤ 214 ∧ n ≤ k) ∨ a = 303 ∨ a = 305 ∨ a = 302 ∨ (234 ≤ a ∧ a ≤ 299)) h1 hc := c2.x.mono (fun a k z => by
    rcases z with z | z
    · exact Or.inl (zsC_scr z)
    · unfold zAs at z
      right
      omega)
  have X4 : zX (fun a k => zscr a k ∨ (201 ≤ a ∧ a ≤ 208) ∨ (210 ≤ a ∧ a ≤ 214 ∧ n ≤ k) ∨ a = 303 ∨ a = 305 ∨ a = 302 ∨ (234 ≤ a ∧ a ≤ 299)) (xm_sl hc 316 0 (Int32.toInt64 (nI m))) hr := s2.x.mono (fun a k z => by right; omega)
  have X5 : zX (fun a k => zscr a k ∨ (201 ≤ a ∧ a ≤ 208) ∨ (210 ≤ a ∧ a ≤ 214 ∧ n ≤ k) ∨ a = 303 ∨ a = 305 ∨ a = 302 ∨ (234 ≤ a ∧ a ≤ 299)) hr hm := d3.x.mono (fun a k z => by
    rcases z with z | z
    · exact Or.inl (zsM_scr z)
    · right
      omega)
  have hX := X1.tr (X2.tr ((zX.out _).tr (X4.tr X5)))
  have q : ∀ a k, 201 ≤ a → a ≤ 214 → xm_i hm a k = xm_i hc a k := fun a k z1 z2 => by
    rw [d3.i (by unfold zsM; omega), s2.i (by omega), xi_sl]
  refine zed (n' := n + m) (nv' := nv) hI r2 hFc ?_ s2 s3 ?_ (d3.mono (fun a k z => zsMs_m z)) (by rw [d3.i (by unfold zsM; omega)]; exact s3.2.2.2.1) (by omega) (Nat.le_refl _) ?_
  · unfold f_L_request f_X10_request
    rw [zq_T1 hI.t5 (by omega) ht, xe_inl, zq_U1 hu, xe_inl, zq_S1 hI.s3 (by omega) hk1 hk2, xe_inl, e2, nI_add, if_neg (show ¬ (160 : Int32) < _ from nI_nlt (a := 160) (by omega) (by omega)), r1, xb_some, c1, xb_some, xe_inl]
    rfl
  · have eT : xm_i (xm_sl hc 316 0 (Int32.toInt64 (nI m))) 308 = xm_i h 308 := by
      rw [xi_sl, c2.row (fun k z => by unfold zsC zAs at z; omega), r2.1.row (fun k z => by unfold zA1 at z; omega)]
    have eS : xm_i (xm_sl hc 316 0 (Int32.toInt64 (nI m))) 303 = xm_i h 303 := by
      rw [xi_sl, c2.row (fun k z => by unfold zsC zAs at z; omega), r2.1.row (fun k z => by unfold zA1 at z; omega)]
    unfold f_X11_request
    rw [zq_isT1 (n := nt) (by rw [eT]; exact hI.T7) (by omega) ht, xb_some, zs_isReq1 hu (by rw [eT]; exact hI.T2) hnf hk1 hk2, xb_some, eS, hS1, if_neg (fun z => hov ((zlsum (c := 160) rfl (by omega) (by omega)).mp z)), zs_good__3, xb_some, if_neg (by decide), s1, xb_some, d1, xb_some, d2, xb_some, d5]
  · obtain ⟨⟨w1, w2, w3, w4, w5, w6, w7, w8⟩, v, n1, tt, rr, p1, i1, cv⟩ := hI.2.2.2.1.2.2.2.1
    have h2057 : ∀ j w, j < nv → w < 4 → zSvc (xm_i h 303) (xm_i h 308) na n (nI u) t nc k (2057 + 4 * j + w) = xm_i h 303 (2057 + 4 * j + w) := fun j w hj hw => hot _ (by omega) (by omega) (by omega)
    rw [d4]
    refine ⟨hwsv, fun j hj => ?_, by omega, by rw [hot 0 (by omega) (by omega) (by omega)]; exact tt, ?_, fun i hi => ?_, fun i hi => ?_, ?_⟩
    · obtain ⟨v1, v2, v3, v4⟩ := v j hj
      rw [hot (2057 + 4 * j) (by omega) (by omega) (by omega), hot (2057 + 4 * j + 1) (by omega) (by omega) (by omega), hot (2057 + 4 * j + 2) (by omega) (by omega) (by omega), hot (2057 + 4 * j + 3) (by omega) (by omega) (by omega)]
      exact ⟨v1, v2, v3, v4.mono (by omega) (by omega)⟩
    · obtain ⟨a1, a2, a3, a4, a5, a6⟩ := c3.2.2.1
      refine ⟨(q _ _ (by omega) (by omega)).trans a1, (q _ _ (by omega) (by omega)).trans a2, (q _ _ (by omega) (by omega)).trans a3, (q _ _ (by omega) (by omega)).trans a4, fun t ht => (q _ _ (by omega) (by omega)).trans (a5 t ht), fun c hc' => ?_⟩
      obtain ⟨b1, b2, b3, b4, b5, b6⟩ := a6 c hc'
      exact ⟨(q _ _ (by omega) (by omega)).trans b1, (q _ _ (by omega) (by omega)).trans b2, (q _ _ (by omega) (by omega)).trans b3, (q _ _ (by omega) (by omega)).trans b4, (q _ _ (by omega) (by omega)).trans b5, (q _ _ (by omega) (by omega)).trans b6⟩
    · rw [q _ _ (by omega) (by omega), c2.i (by unfold zsC zAs; omega)]
      exact r4 i hi
    · obtain ⟨b1, b2, b3, b4, b5⟩ := c3.2.2.2 i hi
      exact ⟨(q _ _ (by omega) (by omega)).trans b1, (q _ _ (by omega) (by omega)).trans b2, (q _ _ (by omega) (by omega)).trans b3, (q _ _ (by omega) (by omega)).trans b4, (q _ _ (by omega) (by omega)).trans b5⟩
    · refine zRV.cg (S := xm_i h 303) (n := n) (fun k hk => (v k hk).2.2.2) (by omega) h2057 (fun i w h1 h2 => hot _ (by omega) (by omega) (by omega)) ?_
      exact zRV.fx hX hn (fun a k z1 z2 z3 z => by unfold zscr at z; omega) (fun k c z1 z2 z => by unfold zscr at z; omega) cv
end Rq
