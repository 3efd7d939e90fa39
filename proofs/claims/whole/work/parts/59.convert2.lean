/-! convert: both sides -/
section Cv2
variable {N ρ δ nc nt nf na n nv ne la nb bo no cap L c q : Nat} {xs : zV} {S T : zV} {h g h1 h2 hc hm hr : xm_H} {u v x y z w : Int32}
theorem zs_convert (hN : 1000 ≤ N) (hnv : nv < 40) (hn : n ≤ 160) (hS1 : xm_i hr 303 1 = nI n) (hS2 : xm_i hr 303 2 = nI nv) : ∃ hm, (if xin ((2057 : Int32) + ((4 : Int32) * (xm_i hr 303 2))) 2217 then (xl (xm_si hr 303 (Int32.toNatClampNeg ((2057 : Int32) + ((4 : Int32) * (xm_i hr 303 2)))) (xm_i hr 303 0)) fun h128 => (if xin (((2057 : Int32) + ((4 : Int32) * (xm_i hr 303 2))) + (1 : Int32)) 2217 then (xl (xm_si h128 303 (Int32.toNatClampNeg (((2057 : Int32) + ((4 : Int32) * (xm_i hr 303 2))) + (1 : Int32))) u) fun h131 => (if xin (((2057 : Int32) + ((4 : Int32) * (xm_i hr 303 2))) + (2 : Int32)) 2217 then (xl (xm_si h131 303 (Int32.toNatClampNeg (((2057 : Int32) + ((4 : Int32) * (xm_i hr 303 2))) + (2 : Int32))) v) fun h134 => (if xin (((2057 : Int32) + ((4 : Int32) * (xm_i hr 303 2))) + (3 : Int32)) 2217 then (xl (xm_si h134 303 (Int32.toNatClampNeg (((2057 : Int32) + ((4 : Int32) * (xm_i hr 303 2))) + (3 : Int32))) (xm_i h134 303 1)) fun h137 => (xl (xm_si h137 303 2 ((xm_i h137 303 2) + (1 : Int32))) fun h139 => (xb (f_X11_lastOf N ((xm_i h139 303 2) - (1 : Int32)) h139) fun v141 h142 => (xb (f_X11_campaignAt v141 h142) fun v144 h145 => (some (v144, h145)))))) else none)) else none)) else none)) else none) = some (zLst (zCv (xm_i hr 303) u v n nv) (xm_i hr 308) nv n, hm) ∧ zF (fun a k => a = 303 ∧ k < 2217) hr hm ∧ xm_i hm 303 = zCv (xm_i hr 303) u v n nv := by
  have x0 : (2057 : Int32) + 4 * nI nv = nI (2057 + 4 * nv) := by
    rw [show (2057 : Int32) = nI 2057 from rfl, show (4 : Int32) = nI 4 from rfl, pk_mul, nI_add]
  have x2 : nI (2057 + 4 * nv) + 2 = nI (2057 + 4 * nv + 2) := nI_add _ 2
  have x3 : nI (2057 + 4 * nv) + 3 = nI (2057 + 4 * nv + 3) := nI_add _ 3
  rw [hS2]
  simp only [x0, nI_1, x2, x3, nI_clamp (show 2057 + 4 * nv < 2 ^ 31 by omega), nI_clamp (show 2057 + 4 * nv + 1 < 2 ^ 31 by omega), nI_clamp (show 2057 + 4 * nv + 2 < 2 ^ 31 by omega), nI_clamp (show 2057 + 4 * nv + 3 < 2 ^ 31 by omega), if_pos (zb_in (show 2057 + 4 * nv < 2217 by omega) (by decide)), if_pos (zb_in (show 2057 + 4 * nv + 1 < 2217 by omega) (by decide)), if_pos (zb_in (show 2057 + 4 * nv + 2 < 2217 by omega) (by decide)), if_pos (zb_in (show 2057 + 4 * nv + 3 < 2217 by omega) (by decide)), xl]
  have v1 : ∀ a b c : Int32, xm_i (xm_si (xm_si (xm_si hr 303 (2057 + 4 * nv) a) 303 (2057 + 4 * nv + 1) b) 303 (2057 + 4 * nv + 2) c) 303 1 = nI n := fun a b c => by
    rw [xi_nk (by omega), xi_nk (by omega), xi_nk (by omega)]
    exact hS1
  rw [v1]
  have v2 : ∀ a b c d : Int32, xm_i (xm_si (xm_si (xm_si (xm_si hr 303 (2057 + 4 * nv) a) 303 (2057 + 4 * nv + 1) b) 303 (2057 + 4 * nv + 2) c) 303 (2057 + 4 * nv + 3) d) 303 2 = nI nv := fun a b c d => by
    rw [xi_nk (by omega), xi_nk (by omega), xi_nk (by omega), xi_nk (by omega)]
    exact hS2
  rw [v2, nI_1]
  have F : zF (fun a k => a = 303 ∧ k < 2217) hr (xm_si (xm_si (xm_si (xm_si (xm_si hr 303 (2057 + 4 * nv) (xm_i hr 303 0)) 303 (2057 + 4 * nv + 1) u) 303 (2057 + 4 * nv + 2) v) 303 (2057 + 4 * nv + 3) (nI n)) 303 2 (nI (nv + 1))) := ((((zF.si ⟨rfl, by omega⟩).st ⟨rfl, by omega⟩).st ⟨rfl, by omega⟩).st ⟨rfl, by omega⟩).st ⟨rfl, by omega⟩
  have eR : xm_i (xm_si (xm_si (xm_si (xm_si (xm_si hr 303 (2057 + 4 * nv) (xm_i hr 303 0)) 303 (2057 + 4 * nv + 1) u) 303 (2057 + 4 * nv + 2) v) 303 (2057 + 4 * nv + 3) (nI n)) 303 2 (nI (nv + 1))) 303 = zCv (xm_i hr 303) u v n nv := by
    rw [zU_si, zU_si, zU_si, zU_si, zU_si]
    rfl
  generalize xm_si (xm_si (xm_si (xm_si (xm_si hr 303 (2057 + 4 * nv) (xm_i hr 303 0)) 303 (2057 + 4 * nv + 1) u) 303 (2057 + 4 * nv + 2) v) 303 (2057 + 4 * nv + 3) (nI n)) 303 2 (nI (nv + 1)) = hm at *
  obtain ⟨w, w1, w2, w3⟩ := zs_last (N := N) (n := n) (k := nv) (cn := n) (h := hm) hN hnv (Nat.le_refl _) (by omega) (by rw [eR, zCv_ot (by omega) (by omega)]; exact hS1) (by rw [eR]; exact zCv_at.2.2.2)
  have eT : xm_i hm 308 = xm_i hr 308 := F.row (fun k z => by omega)
  refine ⟨hm, ?_, F, eR⟩
  rw [eR, zCv_2, show (1 : Int32) = nI 1 from rfl, pk_sub (by omega), Nat.add_sub_cancel, w1, xb_some, w2, xb_some, eR, eT]
theorem zo_convert (hN : 20000 ≤ N) (hI : zInv ρ δ nc nt nf na n nv ne la nb bo no cap L xs h) : zOp (f_L_convert N ρ x y h) (f_X11_convert N x y) (zPo L xs h) := by
  have hn := hI.n
  have hnc := hI.wt.1
  have hnt := hI.wt.2.1
  have hn160 := hI.2.2.2.1.2.2.2.1.2.2.1
  have hnv40 : nv ≤ 40 := hI.ws.2.1
  have hS1 : xm_i h 303 1 = nI n := hI.ws.2.2.2.1
  have hS2 : xm_i h 303 2 = nI nv := hI.ws.2.2.2.2.1
  have e3 : xm_i h 201 3 = nI nv := hI.cvs
  have hb := fun g => zbtL 1 9999 y g (lo64 := 1) (hi64 := 9999) rfl rfl
  rcases zix x (n := 16) (by omega) with hx | ⟨u, hu, rfl⟩
  · refine (zop_bad (h := h) (k := 1) (b := 0) zks15 (by decide) ?_ ?_).mono (fun g hg => hg.po hI)
    · unfold f_L_convert f_X10_convert
      rw [zq_U0 hx, xe_inr, xe_inr]
      rfl
    · unfold f_X11_convert
      rw [zq_isU0 hx, xb_some, if_pos rfl, zs_good_0, zs_good_0]
      simp only [xb_some]
      split
      · rfl
      · rfl
  rcases zq_ix1 y (n := 9999) (by omega) with hy | ⟨v, hv1, hv2, rfl⟩
  · have hy' : y < 1 ∨ 9999 < y := hy
    refine (zop_bad (h := h) (k := 1) (b := 0) zks15 (by decide) ?_ ?_).mono (fun g hg => hg.po hI)
    · unfold f_L_convert f_X10_convert
      rw [zq_U1 hu, xe_inl, zq_R0 hy', xe_inr, xe_inr]
      rfl
    · unfold f_X11_convert
      rw [zq_isU1 hu, xb_some, if_neg (by decide), hb, xb_some, zbt_0 hy', if_pos rfl, zs_good_0, zs_good_0]
      simp only [xb_some]
      split
      · rfl
      · rfl
  have hl1 : ¬ nI v < 1 := nI_nlt (b := 1) (by omega) (by omega)
  have hl2 : ¬ (9999 : Int32) < nI v := nI_nlt (a := 9999) (by omega) (by omega)
  rcases Nat.lt_or_ge nv 40 with hlt | hge
  case inr =>
    refine (zop_bad (h := h) (k := 2) (b := 0) zks16 (by decide) ?_ ?_).mono (fun g hg => hg.po hI)
    · unfold f_L_convert f_X10_convert
      rw [zq_U1 hu, xe_inl, zq_R1 hl1 hl2, xe_inl, e3, if_neg (show ¬ nI nv < (40 : Int32) from nI_nlt (b := 40) hge (by omega)), xe_inr]
      rfl
    · unfold f_X11_convert
      rw [zq_isU1 hu, xb_some, if_neg (by decide), hb, xb_some, zbt_1 hl1 hl2, if_neg (by decide), xi_new (by omega), hS2, if_neg (show ¬ nI nv < (40 : Int32) from nI_nlt (b := 40) hge (by omega)), zs_good_1, xb_some]
      rfl
  obtain ⟨h1, r1, r2, r3, r4⟩ := zc_rem hI
  have q3 : xm_i h1 201 3 = nI nv := r3.2.2.1.2.2.2.1.trans hS2
  -- the class
  obtain ⟨g1, b1, b2, b3, b4, b5, b6, b7⟩ := zc_begin (N := N) (v := nI v) (h := xm_si h1 201 3 (nI (nv + 1))) (by omega) hlt
  have Fg : zF (fun a k => (a = 201 ∧ k = 3) ∨ zAv nv a k) h1 g1 := (zF.si (Or.inl ⟨rfl, rfl⟩)).tr (b2.mono (fun a k z => Or.inr z))
  have hr' : ρ = 164 ∨ ρ = 183 := r3.1
  have hrow : ∀ k w, k < n → w < 5 → zCv (xm_i h 303) (nI u) (nI v) n nv (57 + 5 * k + w) = xm_i h 303 (57 + 5 * k + w) := fun k w hk hw => zCv_ot (by omega) (by omega)
  obtain ⟨ca0, ca1, ca2, ca3⟩ := @zCv_at n nv (xm_i h 303) (nI u) (nI v)
  have hRIg : zRI n (zCv (xm_i h 303) (nI u) (nI v) n nv) g1 := by
    intro k hk
    obtain ⟨d0, d1, d2, d3, d4⟩ := r3.2.2.2 k hk
    have o := hrow k
    have o0 : zCv (xm_i h 303) (nI u) (nI v) n nv (57 + 5 * k) = xm_i h 303 (57 + 5 * k) := o 0 hk (by omega)
    rw [o0, o 1 hk (by omega), o 2 hk (by omega), o 3 hk (by omega), o 4 hk (by omega)]
    exact ⟨(Fg.i (by unfold zAv; omega)).trans d0, (Fg.i (by unfold zAv; omega)).trans d1, (Fg.i (by unfold zAv; omega)).trans d2, (Fg.i (by unfold zAv; omega)).trans d3, (Fg.i (by unfold zAv; omega)).trans d4⟩
  obtain ⟨hc, c1, c2, c3⟩ := zc_attribute (N := N) (ρ := ρ) (nc := nc) (nv := nv) (n := n) (h := g1) (S := zCv (xm_i h 303) (nI u) (nI v) n nv) (T := xm_i h 308) (u := nI u) (by omega) hlt (by omega) hnc (fun k hk => by
      rw [hrow k 2 hk (by omega)]
      exact (hI.ws.2.2.2.2.2.2.2 k hk).2.2.1) (by rw [Fg.i (by unfold zAv; omega)]; exact r3.2.2.1.2.2.1.trans hS1) (by
      rw [Fg.i (by unfold zAv; omega), Fg.i (by unfold zAv; omega), ca0]
      rw [show xm_i h1 201 0 = xm_i h 303 0 from r3.2.2.1.1, show xm_i h1 ρ 1 = xm_i h 308 1 from r3.2.1.2.1]) ca1 hRIg ⟨b3.trans ca2.symm, b4, b5, b6, fun c hc => b7 c (by omega)⟩
  have Fc : zF (fun a k => (a = 201 ∧ k = 3) ∨ zAv nv a k) h1 hc := Fg.tr (c2.mono (fun a k z => Or.inr z))
  have hFc : zF (zAn n nv) h1 hc := Fc.mono (fun a k z => by
    rcases z with z | z | z
    · exact Or.inr (Or.inl (by omega))
    · exact Or.inr (Or.inr (Or.inr (Or.inl ⟨z.1, z.2.1, by omega⟩)))
    · exact Or.inr (Or.inr (Or.inr (Or.inr ⟨z.1, z.2.1⟩))))
  obtain ⟨hr, s1, s2, s3⟩ := zm_rem (N := N) (v := Int32.toInt64 (zLst (zCv (xm_i h 303) (nI u) (nI v) n nv) (xm_i h 308) nv n)) hN hI r2 hFc
  obtain ⟨hm, d1, d2, d3⟩ := zs_convert (N := N) (hr := hr) (n := n) (nv := nv) (u := nI u) (v := nI v) (by omega) hlt hn160 (by rw [s3.1]; exact hS1) (by rw [s3.1]; exact hS2)
  rw [s3.1, s3.2.1] at d1
  rw [s3.1] at d3
  have X1 : zX (fun a k => zscr a k ∨ (201 ≤ a ∧ a ≤ 208) ∨ zAv nv a k ∨ a = 303 ∨ a = 305 ∨ a = 302 ∨ (234 ≤ a ∧ a ≤ 299)) h h1 := r2.1.x.mono (fun a k z => by unfold zA1 at z; right; right; right; omega)
  have X2 : zX (fun a k => zscr a k ∨ (201 ≤ a ∧ a ≤ 208) ∨ zAv nv a k ∨ a = 303 ∨ a = 305 ∨ a = 302 ∨ (234 ≤ a ∧ a ≤ 299)) h1 hc := Fc.x.mono (fun a k z => by
    rcases z with z | z
    · exact Or.inr (Or.inl (by omega))
    · exact Or.inr (Or.inr (Or.inl z)))
  have X4 : zX (fun a k => zscr a k ∨ (201 ≤ a ∧ a ≤ 208) ∨ zAv nv a k ∨ a = 303 ∨ a = 305 ∨ a = 302 ∨ (234 ≤ a ∧ a ≤ 299)) (xm_sl hc 316 0 (Int32.toInt64 (zLst (zCv (xm_i h 303) (nI u) (nI v) n nv) (xm_i h 308) nv n))) hr := s2.x.mono (fun a k z => by right; right; right; omega)
  have X5 : zX (fun a k => zscr a k ∨ (201 ≤ a ∧ a ≤ 208) ∨ zAv nv a k ∨ a = 303 ∨ a = 305 ∨ a = 302 ∨ (234 ≤ a ∧ a ≤ 299)) hr hm := d2.x.mono (fun a k z => by right; right; right; omega)
  have hX := X1.tr (X2.tr ((zX.out _).tr (X4.tr X5)))
  have q : ∀ a k, 201 ≤ a → a ≤ 233 → xm_i hm a k = xm_i hc a k := fun a k z1 z2 => by
    rw [d2.i (by omega), s2.i (by omega), xi_sl]
  refine zed (n' := n) (nv' := nv + 1) hI r2 hFc ?_ s2 s3 ?_ (d2.mono (fun a k z => Or.inr z)) (by rw [d2.i (by omega)]; exact s3.2.2.2.1) (Nat.le_refl _) (by omega) ?_
  · unfold f_L_convert f_X10_convert
    rw [zq_U1 hu, xe_inl, zq_R1 hl1 hl2, xe_inl, e3, if_pos (show nI nv < (40 : Int32) from nI_lt (b := 40) hlt (by omega)), r1, xb_some, q3, nI_1]
    simp only [xl]
    rw [b1, xb_some, c1, xb_some, if_pos (zb_in hlt (by decide)), nI_clamp (by omega), xe_inl, c3.2.2.1]
  · have eS : xm_i (xm_sl hc 316 0 (Int32.toInt64 (zLst (zCv (xm_i h 303) (nI u) (nI v) n nv) (xm_i h 308) nv n))) 303 2 = nI nv := by
      rw [xi_sl, Fc.i (by unfold zAv; omega), r2.1.i (by unfold zA1; omega)]
      exact hS2
    unfold f_X11_convert
    rw [zq_isU1 hu, xb_some, if_neg (by decide), hb, xb_some, zbt_1 hl1 hl2, if_neg (by decide), eS, if_pos (show nI nv < (40 : Int32) from nI_lt (b := 40) hlt (by omega)), zs_good_2, xb_some, if_neg (by decide), s1, xb_some, s3.1]
    exact d1
  · obtain ⟨⟨w1, w2, w3, w4, w5, w6, w7, w8⟩, vv, n1, tt, rr, p1, i1, cv⟩ := hI.2.2.2.1.2.2.2.1
    have o : ∀ i, i ≠ 2 → (i < 2057 + 4 * nv ∨ 2057 + 4 * nv + 3 < i) → zCv (xm_i h 303) (nI u) (nI v) n nv i = xm_i h 303 i := fun i h1 h2 => zCv_ot h1 h2
    rw [d3]
    refine ⟨⟨w1, by omega, by rw [o 0 (by omega) (by omega)]; exact w3, by rw [o 1 (by omega) (by omega)]; exact w4, zCv_2, fun c hc => ?_, fun t ht => by rw [o _ (by omega) (by omega)]; exact w7 t ht, fun k hk => ?_⟩, fun k hk => ?_, n1, by rw [o 0 (by omega) (by omega)]; exact tt, ⟨?_, ?_, ?_, ?_, fun t ht => ?_, fun c hc' => ?_⟩, fun i hi => ?_, fun k hk => ?_, fun k hk => ?_⟩
    · rw [o (3 + 6 * c) (by omega) (by omega), o (3 + 6 * c + 1) (by omega) (by omega), o (3 + 6 * c + 2) (by omega) (by omega), o (3 + 6 * c + 3) (by omega) (by omega), o (3 + 6 * c + 4) (by omega) (by omega), o (3 + 6 * c + 5) (by omega) (by omega)]
      exact w6 c hc
    · rw [o (57 + 5 * k) (by omega) (by omega), o (57 + 5 * k + 1) (by omega) (by omega), o (57 + 5 * k + 2) (by omega) (by omega), o (57 + 5 * k + 3) (by omega) (by omega), o (57 + 5 * k + 4) (by omega) (by omega)]
      exact w8 k hk
    · by_cases hkn : k = nv
      · subst hkn
        rw [ca0, ca1, ca2, ca3]
        exact ⟨w3, zB.nI (by omega) (by omega), zB.nI hv1 hv2, zB.nI (by omega) (Nat.le_refl _)⟩
      · rw [o (2057 + 4 * k) (by omega) (by omega), o (2057 + 4 * k + 1) (by omega) (by omega), o (2057 + 4 * k + 2) (by omega) (by omega), o (2057 + 4 * k + 3) (by omega) (by omega)]
        exact vv k (by omega)
    · rw [q _ _ (by omega) (by omega), Fc.i (by unfold zAv; omega), o 0 (by omega) (by omega)]
      exact r3.2.2.1.1
    · rw [q _ _ (by omega) (by omega), Fc.i (by unfold zAv; omega), o 0 (by omega) (by omega)]
      exact r3.2.2.1.2.1
    · rw [q _ _ (by omega) (by omega), Fc.i (by unfold zAv; omega), o 1 (by omega) (by omega)]
      exact r3.2.2.1.2.2.1
    · rw [q _ _ (by omega) (by omega), c2.i (by unfold zAv; omega), b2.i (by unfold zAv; omega), xi_eq, zCv_2]
    · rw [q _ _ (by omega) (by omega), Fc.i (by unfold zAv; omega), o _ (by omega) (by omega)]
      exact r3.2.2.1.2.2.2.2.1 t ht
    · obtain ⟨a1, a2, a3, a4, a5, a6⟩ := r3.2.2.1.2.2.2.2.2 c hc'
      rw [o (3 + 6 * c) (by omega) (by omega), o (3 + 6 * c + 1) (by omega) (by omega), o (3 + 6 * c + 2) (by omega) (by omega), o (3 + 6 * c + 3) (by omega) (by omega), o (3 + 6 * c + 4) (by omega) (by omega), o (3 + 6 * c + 5) (by omega) (by omega)]
      have qq : ∀ a, 202 ≤ a → a ≤ 208 → xm_i hm a c = xm_i h1 a c := fun a z1 z2 => by rw [q a c (by omega) (by omega), Fc.i (by unfold zAv; omega)]
      exact ⟨(qq _ (by omega) (by omega)).trans a1, (qq _ (by omega) (by omega)).trans a2, (qq _ (by omega) (by omega)).trans a3, (qq _ (by omega) (by omega)).trans a4, (qq _ (by omega) (by omega)).trans a5, (qq _ (by omega) (by omega)).trans a6⟩
    · rw [q _ _ (by omega) (by omega), Fc.i (by unfold zAv; omega)]
      exact r4 i hi
    · obtain ⟨a0, a1, a2, a3, a4⟩ := hRIg k hk
      have qq : ∀ a, 210 ≤ a → a ≤ 214 → xm_i hm a k = xm_i g1 a k := fun a z1 z2 => by rw [q a k (by omega) (by omega), c2.i (by unfold zAv; omega)]
      exact ⟨(qq _ (by omega) (by omega)).trans a0, (qq _ (by omega) (by omega)).trans a1, (qq _ (by omega) (by omega)).trans a2, (qq _ (by omega) (by omega)).trans a3, (qq _ (by omega) (by omega)).trans a4⟩
    · by_cases hkn : k = nv
      · subst hkn
        obtain ⟨z1, z2, z3, z4, z5⟩ := c3
        exact ⟨n, n1, ca3, (q _ _ (by omega) (by omega)).trans z1, (q _ _ (by omega) (by omega)).trans z2, (q _ _ (by omega) (by omega)).trans z3, (q _ _ (by omega) (by omega)).trans z4, fun c hc => (q _ _ (by omega) (by omega)).trans (z5 c hc)⟩
      · have hold : zRV nc nv (zCv (xm_i h 303) (nI u) (nI v) n nv) (xm_i h 308) hm := by
          refine zRV.cg (S := xm_i h 303) (n := n) (fun k hk => (vv k hk).2.2.2) (by omega) (fun k w hk hw => o _ (by omega) (by omega)) (fun i w hi hw => o _ (by omega) (by omega)) ?_
          exact zRV.fx hX hn (fun a k z1 z2 z3 z => by unfold zscr zAv at z; omega) (fun k c z1 z2 z => by unfold zscr zAv at z; omega) cv
        exact hold k (by omega)
end Cv2
