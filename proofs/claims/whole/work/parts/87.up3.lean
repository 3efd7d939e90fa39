/-! load: one more -/
def zWx (W : Nat → List Nat) (n : Nat) (w : List Nat) (t : Nat) : List Nat := if t = n then w else W t
section Up3
variable {L δ nc nt nf na k v i c m a a2 bi bu ca wi q r : Nat} {tg : Int32} {xs : zV} {W V : Nat → List Nat} {w : List Nat} {h0 k0 hc hr hc' hr' : xm_H}
theorem zNs.one {n0 : Nat} (hw : zLet w) (hany : w ≠ zKw 7) (er : xm_r hc (q + m) 0 = some a) (ha : n0 ≤ a) (ha2 : n0 ≤ a2) (hS : zStr hc a a2 w) (el : xm_l hr r m = lN (zPk w)) (hN : zNs n0 q r m W hc hr) : zNs n0 q r (m + 1) (zWx W m w) hc hr := fun t ht => by
  unfold zWx
  by_cases htm : t = m
  · rw [if_pos htm, htm]
    exact ⟨hw, ⟨a, a2, er, ha, ha2, hS⟩, el, hany⟩
  · rw [if_neg htm]
    exact hN t (by omega)
theorem zV0.tag (hnt : nt < 6) (hw : zLet w) (hany : w ≠ zKw 7) (er : xm_r hc (δ + 3 + nt) 0 = some a) (ha : xm_n h0 ≤ a) (ha2 : xm_n h0 ≤ a2) (hS : zStr hc a a2 w) (el : xm_l hr 309 nt = lN (zPk w)) (ev : xm_i hc (δ + 3 + nt) 1 = nI v) (ed : xm_i hr 307 (8 + nt) = nI v) (hv : v ≤ 999) (hV : zV0 L xs δ h0 k0 nc nt nf na W V k hc hr) : zV0 L xs δ h0 k0 nc (nt + 1) nf na (zWx W nt w) V k (xm_si hc δ 5 (nI (nt + 1))) (xm_si hr 307 7 (nI (nt + 1))) := by
  have hn := hV.ncl
  obtain ⟨v1, v2, v3, ⟨w1, w2, w3, w4, w5, w6, w7, w8, w9⟩, v5, v6⟩ := hV
  have hδ := v1.1
  obtain ⟨a1, a2', a3, a4, a5, a6, a7, a8, a9, a10, a11, a12, a13⟩ := w1
  obtain ⟨r1, r2, r3, r4, r5, r6, r7⟩ := w2
  have eD : ∀ j, j ≠ 7 → xm_i (xm_si hr 307 7 (nI (nt + 1))) 307 j = xm_i hr 307 j := fun j h1 => xi_nk h1
  have eD7 : xm_i (xm_si hr 307 7 (nI (nt + 1))) 307 7 = nI (nt + 1) := xi_eq
  have eC : ∀ a j, ¬ (a = δ ∧ j = 5) → xm_i (xm_si hc δ 5 (nI (nt + 1))) a j = xm_i hc a j := fun a j h1 => by rw [xi_si, if_neg h1]
  have eC5 : xm_i (xm_si hc δ 5 (nI (nt + 1))) δ 5 = nI (nt + 1) := xi_eq
  have F : zF (fun a _ => a = δ) hc (xm_si hc δ 5 (nI (nt + 1))) := zF.si rfl
  have X : zXr (fun a _ => a = δ) (fun _ _ => False) hc (xm_si hc δ 5 (nI (nt + 1))) := F.xr
  have G : zF (fun a _ => a = 307) hr (xm_si hr 307 7 (nI (nt + 1))) := zF.si rfl
  refine ⟨v1, v2.tr (X.mono (fun a k z => by unfold zGA; omega) (fun a k z => z.elim)), v3.tr (G.mono (fun a k z => Or.inr z)).fm, ⟨?_, ?_, ?_, ?_, ?_, ?_, ?_, ?_, ?_⟩, v5, v6⟩
  · refine ⟨a1, by omega, a3, a4, a5, (eD _ (by omega)).trans a6, eD7, (eD _ (by omega)).trans a8, (eD _ (by omega)).trans a9, by rw [eD _ (by omega)]; exact a10, by rw [eD _ (by omega)]; exact a11, fun j hj => by rw [eD _ (by omega)]; exact a12 j hj, fun c hc => ?_⟩
    rw [eD _ (by omega), eD _ (by omega), eD _ (by omega)]
    obtain ⟨c1, c2, c3⟩ := a13 c hc
    exact ⟨c1, c2, c3.imp id (fun ⟨t, t1, t2⟩ => ⟨t, by omega, t2⟩)⟩
  · refine ⟨by rw [eC _ _ (by omega), eD _ (by omega)]; exact r1, by rw [eC _ _ (by omega), eD _ (by omega)]; exact r2, by rw [eC _ _ (by omega), eD _ (by omega)]; exact r3, by rw [eC5, eD7], by rw [eC _ _ (by omega), eD _ (by omega)]; exact r5, fun j hj => by rw [eC _ _ (by omega), eD _ (by omega)]; exact r6 j hj, fun c hc => ?_⟩
    obtain ⟨b1, b2, b3, mm, b4, b5, b6⟩ := r7 c hc
    exact ⟨by rw [eC _ _ (by omega), eD _ (by omega)]; exact b1, by rw [eC _ _ (by omega), eD _ (by omega)]; exact b2, by rw [eC _ _ (by omega), eD _ (by omega)]; exact b3, mm, b4, by rw [eC _ _ (by omega)]; exact b5, fun w hw => (b6 w hw).trans (zAp_cg (fun j hj => eD _ (by omega))).symm⟩
  · rw [eC _ _ (by omega)]
    exact w3
  · exact (w4.one hw hany er ha ha2 hS el).out v1.2.1 X (by omega) (fun a k z1 z => by omega) (fun a k _ z => z) (fun t ht z => z) (fun t ht => G.l 309 t)
  · exact w5.out v1.2.1 X (by omega) (fun a k z1 z => by omega) (fun a k _ z => z) (fun t ht z => z) (fun t ht => G.l 310 t)
  · intro t ht
    rw [eC _ _ (by omega), eD _ (by omega)]
    by_cases htn : t = nt
    · rw [htn, ev, ed]
      exact ⟨rfl, zB.nI (by omega) hv⟩
    · exact w6 t (by omega)
  · intro c hc
    rw [eC _ _ (by omega), eC _ _ (by omega), eC _ _ (by omega), eD _ (by omega), eD _ (by omega), eD _ (by omega)]
    exact w7 c hc
  · intro c h1 h2
    rw [eD _ (by omega)]
    exact w8 c h1 h2
  · intro j hj
    rw [eD _ (by omega)]
    exact w9 j hj
theorem zV0.cmp (hnc : nc < 8) (hw : zLet w) (hany : w ≠ zKw 7) (er : xm_r hc (δ + 10 + nc) 0 = some a) (ha : xm_n h0 ≤ a) (ha2 : xm_n h0 ≤ a2) (hS : zStr hc a a2 w) (el : xm_l hr 310 nc = lN (zPk w)) (e1 : xm_i hc (δ + 10 + nc) 1 = nI bi) (e2 : xm_i hc (δ + 10 + nc) 2 = nI bu) (e3 : xm_i hc (δ + 10 + nc) 3 = nI ca) (e4 : xm_i hc (δ + 10 + nc) 4 = nI wi) (e5 : xm_i hc (δ + 10 + nc) 5 = tg) (e6 : xm_i hc (δ + 10 + nc) 6 = 0) (e7 : xm_i hc (δ + 10 + nc) 7 = 0) (d1 : xm_i hr 307 (15 + nc) = nI bi) (d2 : xm_i hr 307 (23 + nc) = nI bu) (d3 : xm_i hr 307 (31 + nc) = nI ca) (d4 : xm_i hr 307 (39 + nc) = nI wi) (d5 : xm_i hr 307 (47 + nc) = tg) (hb : 1 ≤ bi ∧ bi ≤ 999) (hu : 1 ≤ bu ∧ bu ≤ 9999) (hca : 1 ≤ ca ∧ ca ≤ 9) (hwi : 1 ≤ wi ∧ wi ≤ 999) (htg : tg = -1 ∨ ∃ t, t < nt ∧ tg = nI t) (hV : zV0 L xs δ h0 k0 nc nt nf na W V k hc hr) : zV0 L xs δ h0 k0 (nc + 1) nt nf na W (zWx V nc w) k (xm_si hc δ 7 (nI (nc + 1))) (xm_si hr 307 14 (nI (nc + 1))) := by
  have hn := hV.ncl
  obtain ⟨v1, v2, v3, ⟨w1, w2, w3, w4, w5, w6, w7, w8, w9⟩, v5, v6⟩ := hV
  have hδ := v1.1
  obtain ⟨a1, a2', a3, a4, a5, a6, a7, a8, a9, a10, a11, a12, a13⟩ := w1
  obtain ⟨r1, r2, r3, r4, r5, r6, r7⟩ := w2
  have eD : ∀ j, j ≠ 14 → xm_i (xm_si hr 307 14 (nI (nc + 1))) 307 j = xm_i hr 307 j := fun j h1 => xi_nk h1
  have eD7 : xm_i (xm_si hr 307 14 (nI (nc + 1))) 307 14 = nI (nc + 1) := xi_eq
  have eC : ∀ a j, ¬ (a = δ ∧ j = 7) → xm_i (xm_si hc δ 7 (nI (nc + 1))) a j = xm_i hc a j := fun a j h1 => by rw [xi_si, if_neg h1]
  have eC5 : xm_i (xm_si hc δ 7 (nI (nc + 1))) δ 7 = nI (nc + 1) := xi_eq
  have F : zF (fun a _ => a = δ) hc (xm_si hc δ 7 (nI (nc + 1))) := zF.si rfl
  have X : zXr (fun a _ => a = δ) (fun _ _ => False) hc (xm_si hc δ 7 (nI (nc + 1))) := F.xr
  have G : zF (fun a _ => a = 307) hr (xm_si hr 307 14 (nI (nc + 1))) := zF.si rfl
  refine ⟨v1, v2.tr (X.mono (fun a k z => by unfold zGA; omega) (fun a k z => z.elim)), v3.tr (G.mono (fun a k z => Or.inr z)).fm, ⟨?_, ?_, ?_, ?_, ?_, ?_, ?_, ?_, ?_⟩, v5, v6⟩
  · refine ⟨by omega, a2', a3, a4, a5, eD7, (eD _ (by omega)).trans a7, (eD _ (by omega)).trans a8, (eD _ (by omega)).trans a9, by rw [eD _ (by omega)]; exact a10, by rw [eD _ (by omega)]; exact a11, fun j hj => by rw [eD _ (by omega)]; exact a12 j hj, fun c hc => ?_⟩
    rw [eD _ (by omega), eD _ (by omega), eD _ (by omega)]
    by_cases hcn : c = nc
    · rw [hcn, d3, d4, d5]
      exact ⟨zB.nI hca.1 hca.2, zB.nI hwi.1 hwi.2, htg⟩
    · exact a13 c (by omega)
  · refine ⟨by rw [eC _ _ (by omega), eD _ (by omega)]; exact r1, by rw [eC _ _ (by omega), eD _ (by omega)]; exact r2, by rw [eC _ _ (by omega), eD _ (by omega)]; exact r3, by rw [eC _ _ (by omega), eD _ (by omega)]; exact r4, by rw [eC5, eD7], fun j hj => by rw [eC _ _ (by omega), eD _ (by omega)]; exact r6 j hj, fun c hc => ?_⟩
    by_cases hcn : c = nc
    · subst hcn
      refine ⟨by rw [eC _ _ (by omega), eD _ (by omega), e3, d3], by rw [eC _ _ (by omega), eD _ (by omega), e4, d4], by rw [eC _ _ (by omega), eD _ (by omega), e5, d5], 0, by omega, by rw [eC _ _ (by omega)]; exact e7, fun y hy => ?_⟩
      rw [zAp_cg (T := xm_i hr 307) (fun j hj => eD _ (by omega)), Nat.zero_testBit]
      symm
      unfold zAp
      rw [List.any_eq_false]
      intro j hj
      obtain ⟨p, q, p1, p2, p3, p4⟩ := w9 j (List.mem_range.mp hj)
      have z1 := zbit8 ⟨p, by omega⟩ ⟨q, by omega⟩ ⟨c, by omega⟩
      dsimp only at z1
      rw [p4, z1, decide_eq_false (show ¬ (c = p ∨ c = q) by omega)]
      simp
    · obtain ⟨b1, b2, b3, mm, b4, b5, b6⟩ := r7 c (by omega)
      exact ⟨by rw [eC _ _ (by omega), eD _ (by omega)]; exact b1, by rw [eC _ _ (by omega), eD _ (by omega)]; exact b2, by rw [eC _ _ (by omega), eD _ (by omega)]; exact b3, mm, b4, by rw [eC _ _ (by omega)]; exact b5, fun w hw => (b6 w hw).trans (zAp_cg (fun j hj => eD _ (by omega))).symm⟩
  · rw [eC _ _ (by omega)]
    exact w3
  · exact w4.out v1.2.1 X (by omega) (fun a k z1 z => by omega) (fun a k _ z => z) (fun t ht z => z) (fun t ht => G.l 309 t)
  · exact (w5.one hw hany er ha ha2 hS el).out v1.2.1 X (by omega) (fun a k z1 z => by omega) (fun a k _ z => z) (fun t ht z => z) (fun t ht => G.l 310 t)
  · intro t ht
    rw [eC _ _ (by omega), eD _ (by omega)]
    exact w6 t ht
  · intro c hc
    rw [eC _ _ (by omega), eC _ _ (by omega), eC _ _ (by omega), eD _ (by omega), eD _ (by omega), eD _ (by omega)]
    by_cases hcn : c = nc
    · rw [hcn, e1, e2, e6, d1, d2, w8 nc (Nat.le_refl _) hnc]
      exact ⟨rfl, rfl, rfl, zB.nI hb.1 hb.2, zB.nI hu.1 hu.2, ⟨0, by omega, by omega, rfl⟩⟩
    · exact w7 c (by omega)
  · intro c h1 h2
    rw [eD _ (by omega)]
    exact w8 c (by omega) h2
  · intro j hj
    rw [eD _ (by omega)]
    obtain ⟨p, q, p1, p2, p3, p4⟩ := w9 j hj
    exact ⟨p, q, by omega, by omega, p3, p4⟩
end Up3
