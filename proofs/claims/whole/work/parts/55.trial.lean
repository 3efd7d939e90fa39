/-! trials: revenueAfter, multiplierAfter -/
def zAt (n nv a k : Nat) : Prop := zAn n nv a k ∨ a = 303
section Tr
variable {N ρ δ nc nt nf na n nv ne la nb bo no cap L t k tk : Nat} {xs : zV} {S T : zV} {h g h1 h2 hc hm : xm_H} {u v x y z w : Int32}
theorem zAt_e {v a k : Nat} (z : zAt n nv a k) : zAe n nv v a k := by
  rcases z with z | z
  · exact Or.inl z
  · exact Or.inr (Or.inl z)
theorem zAt_no {a k : Nat} (ha : a = 308 ∨ a = 305 ∨ (a = 302 ∧ k = 3) ∨ (234 ≤ a ∧ a ≤ 299) ∨ (164 ≤ a ∧ a ≤ 181) ∨ (183 ≤ a ∧ a ≤ 200) ∨ (210 ≤ a ∧ a ≤ 214 ∧ k < n) ∨ (229 ≤ a ∧ a ≤ 232 ∧ k < nv) ∨ (a = 233 ∧ k < 8 * nv)) : ¬ zAt n nv a k := by
  unfold zAt zAn zscr
  omega
theorem zInv_tr (hI : zInv ρ δ nc nt nf na n nv ne la nb bo no cap L xs h) (hX : zX (zAt n nv) h g) (eS : xm_i g 303 = xm_i h 303) (hRS : zRS 201 nc nt (xm_i h 303) (xm_i h 308) g) (hPz : zPz 201 g) : zInv ρ δ nc nt nf na n nv ne la nb bo no cap L xs g := by
  have hn := hI.n
  obtain ⟨q1, q2, q3, q4, q5, q6⟩ := zInv_rest (v := 236) (by omega) hI (hX.mono (fun a k z => zAt_e z))
  refine ⟨q1, hI.2.1, q2, ?_, q3, q4, q5, q6⟩
  obtain ⟨a1, a2, a3, a4, a5, a6, a7, a8, a9, a10⟩ := hI.2.2.2.1
  have hr : ρ = 164 ∨ ρ = 183 := a1
  have hnc := a2.1
  have eT : xm_i g 308 = xm_i h 308 := hX.row (by omega) (fun k => zAt_no (by omega))
  have eH : xm_i g 305 = xm_i h 305 := hX.row (by omega) (fun k => zAt_no (by omega))
  refine ⟨a1, by rw [eT]; exact a2, by rw [eT]; exact zRT.fx a1 hX hn (fun a k z1 z2 => zAt_no (by omega)) a2.1 a3, ?_, a5, a6, (hX.i (by omega) (zAt_no (by omega))).trans a7, (hX.i (by omega) (zAt_no (by omega))).trans a8, (hX.i (by omega) (zAt_no (by omega))).trans a9, fun j hj => ?_⟩
  · rw [eT, eS]
    exact ⟨a4.1, a4.2.1, a4.2.2.1, a4.2.2.2.1, hRS, hPz, zRI.fx hX hn (fun a k z1 z2 z3 => zAt_no (by omega)) a4.2.2.2.2.2.2.1, zRV.fx hX hn (fun a k z1 z2 z3 => zAt_no (by omega)) (fun k c z1 z2 => zAt_no (by omega)) a4.2.2.2.2.2.2.2⟩
  · obtain ⟨nj, vj, Sj, b1, b2, b3, b4, b6, b5⟩ := a10 j hj
    refine ⟨nj, vj, Sj, b1, b2, ?_, ?_, by rw [eH]; exact b6, ?_⟩
    · rw [eH]
      exact b3
    · rw [eS]
      exact b4
    · rw [eT]
      exact zBlk.fx hX hn (by omega) (fun a k z1 z2 => zAt_no (by omega)) (fun a k z1 z2 z3 => zAt_no (by omega)) (fun a k z1 z2 z3 => zAt_no (by omega)) (fun k c z1 z2 => zAt_no (by omega)) b5
/-- a trial as the law makes it -/
theorem ztr {r1 : Option (Int32 × xm_H)} {r2 : xm_H → Option (Int32 × xm_H)} (hI : zInv ρ δ nc nt nf na n nv ne la nb bo no cap L xs h) (hF : zF (zAn n nv) h hc) (hRS : zRS 201 nc nt (xm_i h 303) (xm_i h 308) hc) (hPz : zPz 201 hc) (c1 : r1 = some (0, xm_sl hc 316 0 (Int32.toInt64 v))) (m2 : r2 (xm_sl hc 316 0 (Int32.toInt64 v)) = some (v, hm)) (m3 : zF zAm (xm_sl hc 316 0 (Int32.toInt64 v)) hm) (m4 : xm_i hm 302 4 = 0) (m5 : xm_i hm 303 = xm_i h 303) : zOp r1 r2 (zPo L xs h) := by
  have X1 : zX (zAt n nv) h hc := hF.x.mono (fun a k z => Or.inl z)
  have X3 : zX (zAt n nv) (xm_sl hc 316 0 (Int32.toInt64 v)) hm := m3.x.mono (fun a k z => by
    rcases z with z | z
    · exact Or.inl (Or.inl z)
    · exact Or.inr z.1)
  have hX := X1.tr ((zX.out _).tr X3)
  refine ⟨0, _, v, _, c1, m2, m4, fun _ => ?_, ⟨ρ, δ, nc, nt, nf, na, n, nv, ne, la, nb, bo, no, cap, zInv_tr hI hX m5 ?_ ?_⟩, ?_, ?_⟩
  · rw [m3.l]
    exact xl_eq
  · exact zRS.fr m3 (fun a k z1 z2 z => by unfold zAm zscr at z; omega) (by exact hRS)
  · intro i hi
    rw [m3.i (by unfold zAm zscr; omega)]
    exact hPz i hi
  · rw [m3.n]
    show xm_n hc ≤ _
    rw [hF.n]
    omega
  · rw [m3.sz]
    show xm_sz hc ≤ _
    rw [hF.sz]
    omega
theorem zc_bef (hnc : nc ≤ 8) (hnt : nt ≤ 6) (hR : zRA ρ nc nt nf na n S T h) (hp : zPz 201 h) : ∃ h1, f_X7_copy 220 201 h = some ((), h1) ∧ zF (fun a _ => 220 ≤ a ∧ a ≤ 227) h h1 ∧ zRA ρ nc nt nf na n S T h1 ∧ zRS 220 nc nt S T h1 ∧ zPz 220 h1 ∧ zPz 201 h1 := by
  obtain ⟨h1, r1, cp⟩ := zcopy (v0 := 220) (v1 := 201) (h := h) (by omega) hp
  refine ⟨h1, r1, cp.1, ⟨hR.1, zRT.fr hR.1 cp.1 (fun a k z w => by omega) hnc hR.2.1, zRS.fr cp.1 (fun a k z1 z2 w => by omega) hR.2.2.1, zRI.fr cp.1 (fun a k z1 z2 w => by omega) hR.2.2.2⟩, cp.rs hnc hnt hR.2.2.1, cp.pz hp, fun i hi => ?_⟩
  rw [cp.1.i (by omega)]
  exact hp i hi
theorem zc_aft (hnc : nc ≤ 8) (hnt : nt ≤ 6) (hF : zF (fun a q => zsC a q ∨ zAs n a q ∨ (201 ≤ a ∧ a ≤ 208)) h1 h2) (hR : zRS 220 nc nt S T h1) (hp : zPz 220 h1) : ∃ h3, f_X7_copy 201 220 h2 = some ((), h3) ∧ zF (fun a _ => 201 ≤ a ∧ a ≤ 208) h2 h3 ∧ zRS 201 nc nt S T h3 ∧ zPz 201 h3 := by
  have hp2 : zPz 220 h2 := fun i hi => by
    rw [hF.i (by unfold zsC zAs; omega)]
    exact hp i hi
  obtain ⟨h3, r1, cp⟩ := zcopy (v0 := 201) (v1 := 220) (h := h2) (by omega) hp2
  exact ⟨h3, r1, cp.1, cp.rs hnc hnt (zRS.fr hF (fun a k z1 z2 w => by unfold zsC zAs at w; omega) hR), cp.pz hp2⟩
theorem zs_isAhS (e : xm_i h 308 2 = nI nf) (hx : x < 1 ∨ nI nf < x) : f_X11_isAhead x y h = some (0, h) := by
  unfold f_X11_isAhead
  rw [zq_arS0 e hx, xb_some, if_pos rfl]
theorem zs_isAh0 {k : Nat} (e : xm_i h 308 2 = nI nf) (hnf : nf ≤ 4) (h1 : 1 ≤ k) (h2 : k ≤ nf) (hy : y < 1 ∨ 60 < y) : f_X11_isAhead (nI k) y h = some (0, h) := by
  unfold f_X11_isAhead
  rw [zq_arS1 e (by omega) h1 h2, xb_some, if_neg (by decide), zbtL 1 60 y h (lo64 := 1) (hi64 := 60) rfl rfl, xb_some, zbt_0 hy, if_pos rfl]
theorem zs_isAh1 {k m : Nat} (e : xm_i h 308 2 = nI nf) (hnf : nf ≤ 4) (h1 : 1 ≤ k) (h2 : k ≤ nf) (hm1 : 1 ≤ m) (hm2 : m ≤ 60) : f_X11_isAhead (nI k) (nI m) h = some (1, h) := by
  unfold f_X11_isAhead
  rw [zq_arS1 e (by omega) h1 h2, xb_some, if_neg (by decide), zbtL 1 60 (nI m) h (lo64 := 1) (hi64 := 60) rfl rfl, xb_some, zbt_1 (show ¬ nI m < (1 : Int32) from nI_nlt (b := 1) (by omega) (by omega)) (show ¬ (60 : Int32) < nI m from nI_nlt (a := 60) (by omega) (by omega)), if_neg (by decide)]
theorem zs_isAhB (x y : Int32) (h : xm_H) : ∃ b, f_X11_isAhead x y h = some (zi b, h) := by
  unfold f_X11_isAhead
  rw [zs_areSlots, xb_some]
  split
  · exact ⟨false, rfl⟩
  · rw [zbtL 1 60 y h (lo64 := 1) (hi64 := 60) rfl rfl, xb_some]
    split
    · exact ⟨false, rfl⟩
    · exact ⟨true, rfl⟩
theorem zpR {m : Nat} (hm1 : 1 ≤ m) (hm2 : m ≤ 60) : f_X10_requireRange (nI m) 1 60 h = some (.inl (), h) := zq_R1 (nI_nlt (b := 1) (by omega) (by omega)) (show ¬ (60 : Int32) < nI m from nI_nlt (a := 60) (by omega) (by omega))
theorem zo_revenueAfter (hN : 20000 ≤ N) (hI : zInv ρ δ nc nt nf na n nv ne la nb bo no cap L xs h) : zOp (f_L_revenueAfter N ρ x y z h) (f_X11_revenueAfter N x y z) (zPo L xs h) := by
  have hn := hI.n
  have hnc := hI.wt.1
  have hnt := hI.wt.2.1
  have hnf := hI.wt.2.2.2.1
  have hn160 := hI.2.2.2.1.2.2.2.1.2.2.1
  obtain ⟨tk, tk1, tk2, tk3⟩ := hI.2.2.2.1.2.2.2.1.2.2.2.1
  have hpz : zPz 201 h := hI.2.2.2.1.2.2.2.1.2.2.2.2.2.1
  rcases zix x (n := nt) (by omega) with hx | ⟨t, ht, rfl⟩
  · refine (zop_bad (h := h) (k := 1) (b := 0) zks14 (by decide) ?_ ?_).mono (fun g hg => hg.po hI)
    · unfold f_L_revenueAfter f_X10_revenueAfter
      rw [zq_T0 hI.t5 hx, xe_inr, xe_inr]
      rfl
    · unfold f_X11_revenueAfter
      obtain ⟨b, hb⟩ := zs_isAhB y z (xm_new h (14, 0))
      rw [zq_isT0 (n := nt) (by rw [xi_new (by omega)]; exact hI.T7) (by omega) hx, xb_some, hb, xb_some, zs_good_0, xb_some]
      rfl
  rcases zq_ix1 y (n := nf) (by omega) with hy | ⟨k, hk1, hk2, rfl⟩
  · refine (zop_bad (h := h) (k := 2) (b := 0) zks15 (by decide) ?_ ?_).mono (fun g hg => hg.po hI)
    · unfold f_L_revenueAfter f_X10_revenueAfter
      rw [zq_T1 hI.t5 (by omega) ht, xe_inl, zq_S0 hI.s3 hy, xe_inr, xe_inr]
      rfl
    · unfold f_X11_revenueAfter
      rw [zq_isT1 (n := nt) (by rw [xi_new (by omega)]; exact hI.T7) (by omega) ht, xb_some, zs_isAhS (by rw [xi_new (by omega)]; exact hI.T2) hy, xb_some, zs_good_1, xb_some]
      rfl
  rcases zq_ix1 z (n := 60) (by omega) with hz | ⟨m, hm1, hm2, rfl⟩
  · have hz' : z < 1 ∨ 60 < z := hz
    refine (zop_bad (h := h) (k := 2) (b := 0) zks15 (by decide) ?_ ?_).mono (fun g hg => hg.po hI)
    · unfold f_L_revenueAfter f_X10_revenueAfter
      rw [zq_T1 hI.t5 (by omega) ht, xe_inl, zq_S1 hI.s3 (by omega) hk1 hk2, xe_inl, zq_R0 hz', xe_inr, xe_inr]
      rfl
    · unfold f_X11_revenueAfter
      rw [zq_isT1 (n := nt) (by rw [xi_new (by omega)]; exact hI.T7) (by omega) ht, xb_some, zs_isAh0 (by rw [xi_new (by omega)]; exact hI.T2) hnf hk1 hk2 hz', xb_some, zs_good_1, xb_some]
      rfl
  obtain ⟨a1, a2, a3, a4, a5, a6⟩ := zAh_ok hI.wt hI.ws ht hk2 tk3 (by omega) m (by omega)
  obtain ⟨h1, r1, r2, r3, r4, r5, r6⟩ := zc_bef hnc hnt hI.ra hpz
  obtain ⟨h2, t1, t2, t3⟩ := zc_try (N := N) (m := m) (by omega) r3 hI.wt hI.ws ht hk2 tk3 (by omega) hn160 hm2
  obtain ⟨hc, c1, c2, c3, c4⟩ := zc_aft hnc hnt (t2.mono (fun a q z => z.imp id (fun z => z.imp id (fun z => by omega)))) r4 r5
  have hF : zF (zAn n nv) h hc := (r2.mono (fun a k z => Or.inl (Or.inl (by omega)))).tr ((t2.mono (fun a k z => by
    rcases z with z | z | z
    · exact zsCs_n (Or.inl z)
    · exact zsCs_n (Or.inr z)
    · exact Or.inr (Or.inl (by omega)))).tr (c2.mono (fun a k z => Or.inr (Or.inl z))))
  have q1 : xm_i h2 220 2 = nI n := by
    rw [t2.i (by unfold zsC zAs; omega)]
    exact r4.2.2.1.trans hI.ws.2.2.2.1
  have q2 : xm_i h2 201 2 = nI (zAh (xm_i h 308) na t nc k n (xm_i h 303) m).1 := t3.2.2.1.2.2.1.trans a1.2.2.2.1
  have hv : zsm (fun j => xm_i h2 214 (n + j)) ((zAh (xm_i h 308) na t nc k n (xm_i h 303) m).1 - n) = zAr (xm_i h 308) na t nc k n (xm_i h 303) m := by
    rw [a6]
    exact zsm_congr (fun j hj => (t3.2.2.2 (n + j) (by omega)).2.2.2.2)
  have eS : xm_i hc 303 = xm_i h 303 := hF.row (fun k z => by unfold zAn zscr at z; omega)
  have eT : xm_i hc 308 = xm_i h 308 := hF.row (fun k z => by unfold zAn zscr at z; omega)
  have k3 : xm_k hc 303 = (100, 2217) := (hF.k 303).trans (xs_k hI.1 rfl rfl)
  have k4 : xm_k hc 304 = (100, 2217) := (hF.k 304).trans (xs_k hI.1 rfl rfl)
  obtain ⟨g1, s1, s2, s3⟩ := zs_copy (N := N) (a := 303) (b := 304) (h := xm_si (xm_sl hc 316 0 (Int32.toInt64 (zAr (xm_i h 308) na t nc k n (xm_i h 303) m))) 302 4 0) hN k3 k4 (by omega) (by omega)
  obtain ⟨g2, u1, u2, u3⟩ := zs_ahead (N := N) (h := g1) (S := xm_i h 303) (T := xm_i h 308) (m := m) (by omega) (by rw [s2.row (fun k z => by omega), zU_ot (by decide), xi_sl, eS]) (by rw [s2.row (fun k z => by omega), zU_ot (by decide), xi_sl, eT]) hI.wt hI.ws ht hk2 tk3 (by omega) hn160 hm2
  obtain ⟨hm, w1, w2, w3⟩ := zs_copy (N := N) (a := 304) (b := 303) (h := g2) hN ((u2.k 304).trans ((s2.k 304).trans k4)) ((u2.k 303).trans ((s2.k 303).trans k3)) (by omega) (by omega)
  refine ztr (v := zAr (xm_i h 308) na t nc k n (xm_i h 303) m) hI hF c3 c4 ?_ (hm := hm) ?_ ?_ ?_ ?_
  · unfold f_L_revenueAfter f_X10_revenueAfter
    rw [zq_T1 hI.t5 (by omega) ht, xe_inl, zq_S1 hI.s3 (by omega) hk1 hk2, xe_inl, zpR hm1 hm2, xe_inl, r1, xb_some, t1, xb_some, q1, q2, zc_priceSum (by omega) a3 (by omega), xb_some, c1, xb_some, xe_inl, hv]
    rfl
  · unfold f_X11_revenueAfter
    rw [zq_isT1 (n := nt) (by rw [xi_sl, eT]; exact hI.T7) (by omega) ht, xb_some, zs_isAh1 (by rw [xi_sl, eT]; exact hI.T2) hnf hk1 hk2 hm1 hm2, xb_some, zs_good_2, xb_some, if_neg (by decide), s1, xb_some, u1, xb_some, w1, xb_some]
  · refine (zF.si (Or.inl zscr4)).tr ((s2.mono (fun a k z => Or.inl ?_)).tr ((u2.mono (fun a k z => zsMs_m z)).tr (w2.mono (fun a k z => Or.inr z))))
    unfold zscr
    omega
  · rw [w2.i (by omega), u2.i (by unfold zsM; omega), s2.i (by omega), xi_eq]
  · funext i
    by_cases hi : i < 2217
    · rw [w3 i hi, u2.i (by unfold zsM; omega), s3 i hi, xi_ne (by decide), xi_sl, eS]
    · rw [w2.i (by omega), u2.i (by unfold zsM; omega), s2.i (by omega), xi_ne (by decide), xi_sl, eS]
end Tr
