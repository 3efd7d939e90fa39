/-! load: fields, names, targets -/
section Fl3
variable {N L δ nc nt nf na k x s e κ lo hi i f a0 r m j q c : Nat} {x1 x2 x3 : Int32} {xs : zV} {W V : Nat → List Nat} {b : Nat → Nat} {h0 k0 hc hr : xm_H}
theorem zL_fld (hN : 1000 ≤ N) (h3 : x3 = nI i) (h1 : x1 = nI lo) (h2 : x2 = nI hi) (hlo : lo ≤ 9999) (hhi : hi ≤ 9999) (ha0 : (nc < 8 ∧ a0 = δ + 10 + nc) ∨ (nt < 6 ∧ a0 = δ + 3 + nt)) (hi0 : zB8 nc nt 307 i) (hi7 : i < 72) (hP : zPT b x s e κ hc hr) (hE : zEq hc hr) (hV : zV0 L xs δ h0 k0 nc nt nf na W V k hc hr) : zFb (f_X5_takeNumber N x1 x2 hc) (f_X11_numberTo N x3 x1 x2 hr) hc hr ∨ ∃ hc1 hr1 s' e' κ' v, f_X5_takeNumber N x1 x2 hc = some (1, hc1) ∧ xm_i hc1 161 1 = nI v ∧ f_X11_numberTo N x3 x1 x2 hr = some (1, hr1) ∧ e ≤ s' ∧ lo ≤ v ∧ v ≤ hi ∧ zPT b x s' e' κ' (xm_si hc1 a0 f (nI v)) hr1 ∧ zEq (xm_si hc1 a0 f (nI v)) hr1 ∧ zV0 L xs δ h0 k0 nc nt nf na W V k (xm_si hc1 a0 f (nI v)) hr1 ∧ zF (fun a k => zCA a k ∨ (a = a0 ∧ k = f)) hc (xm_si hc1 a0 f (nI v)) ∧ zFm (fun a k => zRB a k ∨ (a = 307 ∧ k = i)) zTM hr hr1 ∧ xm_i hr1 307 i = nI v := by
  have hδ := hV.1.1
  unfold f_X11_numberTo
  rcases zL_num' hN h1 h2 hlo hhi hP hE with hb | ⟨hc2, hr2, s2, e2, κ2, v, b1, b2, b3, b4, P2, E2, b7, b8, b9, b10, b11⟩
  · left
    obtain ⟨hc', hr', c1, c2, c3, c4, c5⟩ := hb
    exact ⟨hc', hr', c1, by rw [c2, xb_some, if_pos rfl], c3, c4, c5⟩
  · right
    have V2 := hV.st b3 b4
    have hn2 := V2.ncl
    rw [b2, xb_some, if_neg (by decide), h3, if_pos (zb_in hi7 (by decide)), nI_clamp (by omega), b11]
    have F3 : zF (fun a k => a = a0 ∧ k = f) hc2 (xm_si hc2 a0 f (nI v)) := zF.si ⟨rfl, rfl⟩
    have G3 : zFm (fun a k => a = 307 ∧ k = i) (fun _ _ => False) hr2 (xm_si hr2 307 i (nI v)) := (zF.si ⟨rfl, rfl⟩).fm
    refine ⟨hc2, _, s2, e2, κ2, v, b1, b10, rfl, b7, b8, b9, P2.fr (R := fun _ _ => False) F3.xr G3 hn2 (fun a k z1 z => by omega) (fun a k z1 z => by omega) (fun z => z), E2.fr (R := fun _ _ => False) F3.xr G3 hn2 (fun k z1 z => by omega) (fun k z1 z => by omega), V2.out (R := fun _ _ => False) F3.xr G3 (fun a k z => by unfold zA8; omega) (fun a k z => z.elim) (fun a k z => by rw [z.1, z.2]; exact hi0) (fun a k z => z.elim) V2.2.2.2.2.1 V2.2.2.2.2.2, (b3.mono (fun a k z => Or.inl z)).tr (F3.mono (fun a k z => Or.inr z)), (b4.mono (fun a k z => Or.inl z) (fun a k z => z)).tr (G3.mono (fun a k z => Or.inr z) (fun a k z => z.elim)), xi_eq⟩
theorem zL_nam (hN : 1000 ≤ N) (ha0 : (nc < 8 ∧ a0 = δ + 10 + nc ∧ r = 310 ∧ m = nc ∧ q = 8) ∨ (nt < 6 ∧ a0 = δ + 3 + nt ∧ r = 309 ∧ m = nt ∧ q = 6)) (hj : j ≤ m) (hfr : κ = 1 → f_X11_find N r (nI m) (xm_l hr 302 16) hr = some (if j = m then -1 else nI j, hr)) (hP : zPT b x s e κ hc hr) (hE : zEq hc hr) (hV : zV0 L xs δ h0 k0 nc nt nf na W V k hc hr) : zFb (f_X5_isNewName N (if j = m then -1 else nI j) hc) (f_X11_newName N r (nI m) hr) hc hr ∨ ∃ hc1 hc2 hr2 s' e' κ' a w, j = m ∧ f_X5_isNewName N (-1) hc = some (1, hc) ∧ f_X9_letters N hc = some (a, hc1) ∧ f_X9_advance N (xm_sr hc1 a0 0 (some a)) = some ((), hc2) ∧ f_X11_newName N r (nI m) hr = some (1, hr2) ∧ zPT b x s' e' κ' hc2 hr2 ∧ zEq hc2 hr2 ∧ e ≤ s' ∧ zV0 L xs δ h0 k0 nc nt nf na W V (k + 1) hc2 hr2 ∧ zLet w ∧ w ≠ zKw 7 ∧ xm_r hc2 a0 0 = some a ∧ xm_n h0 ≤ a ∧ zStr hc2 a (a + 1) w ∧ xm_l hr2 r m = lN (zPk w) := by
  have hδ := hV.1.1
  have hn := hV.ncl
  have hk8 : xm_k hr r = (104, q) := by
    rw [hV.2.2.1.k]
    rcases ha0 with ⟨_, _, z3, _, z5⟩ | ⟨_, _, z3, _, z5⟩
    · rw [z3, z5]
      exact hV.1.2.2.2.2.2.2
    · rw [z3, z5]
      exact hV.1.2.2.2.2.2.1
  rcases zL_new hN hP hV hk8 (by omega) (by omega) (by omega) hj hfr with hb | ⟨hk, hjm, hany, n1, n2⟩
  · exact Or.inl hb
  · right
    obtain ⟨hc1, l1, l2, l3, l4, l5⟩ := zc_letters hN hP.1 hP.2.1 hk hn
    have hl := hP.1.2.2.2.2.2.2.1 hk
    have r7 := hP.2.2.2.2.2.2.2.2 hk
    have X2 : zXr (fun _ _ => False) (fun a k => a = a0 ∧ k = 0) hc (xm_sr hc1 a0 0 (some (xm_n hc + 1))) := (l2.xr).sr ⟨rfl, rfl⟩
    have G2 : zFm (fun _ _ => False) (fun a k => a = r ∧ k = m) hr (xm_sl hr r m (xm_l hr 302 16)) := zFm.rf.sl ⟨rfl, rfl⟩
    have P2 := hP.fr X2 G2 hn (fun a k _ z => z) (fun a k _ z => z) (fun z => by omega)
    have E2 := hE.fr X2 G2 hn (fun k _ z => z) (fun k _ z => z)
    have V2 := hV.out (k' := k + 1) X2 G2 (fun a k z => z.elim) (fun a k z => by unfold zR8; omega) (fun a k z => z.elim) (fun a k z => by unfold zM8; omega) (by have := hV.2.2.2.2.1; show xm_n hc1 ≤ _; omega) (by have := hV.2.2.2.2.2; show xm_sz hc1 ≤ _; omega)
    obtain ⟨hc3, hr3, s3, e3, κ3, d1, d2, d3, d4, P3, E3, d7⟩ := zL_adv hN P2 E2
    have S2 : zStr (xm_sr hc1 a0 0 (some (xm_n hc + 1))) (xm_n hc + 1) (xm_n hc + 2) (zWd b s (e - s)) := by
      obtain ⟨t1, t2, t3, t4, t5, t6, t7⟩ := l5
      exact ⟨t1, t2, t3, (if_neg (fun z => by omega)).trans t4, t5, t6, t7⟩
    refine ⟨hc1, hc3, hr3, s3, e3, κ3, xm_n hc + 1, zWd b s (e - s), hjm, n1, l1, d1, ?_, P3, E3, d7, V2.st1 d3 d4, hl, hany, ?_, by have := hV.2.1.1; omega, S2.fx d3.x (fun k z => by omega) (fun k z => by omega), ?_⟩
    · rw [n2, d2, xb_some, if_pos (Or.inr rfl)]
    · rw [d3.r]
      exact zr_eq
    · rw [d4.l (fun z => by unfold zTM at z; omega), xl_eq, r7]
theorem zL_tgt (hN : 1000 ≤ N) (hnc : nc < 8) (hP : zPT b x s e κ hc hr) (hE : zEq hc hr) (hV : zV0 L xs δ h0 k0 nc nt nf na W V k hc hr) : zFb (f_X5_takeTarget N δ hc) (f_X11_target N (nI nc) hr) hc hr ∨ ∃ hc1 hr1 s' e' κ' tg, f_X5_takeTarget N δ hc = some (1, hc1) ∧ f_X11_target N (nI nc) hr = some (1, hr1) ∧ e ≤ s' ∧ zPT b x s' e' κ' hc1 hr1 ∧ zEq hc1 hr1 ∧ zV0 L xs δ h0 k0 nc nt nf na W V k hc1 hr1 ∧ zF zCA hc hc1 ∧ zFm (fun a k => zRB a k ∨ (a = 307 ∧ k = 47 + nc)) zTM hr hr1 ∧ xm_i hc1 161 2 = tg ∧ xm_i hr1 307 (47 + nc) = tg ∧ (tg = -1 ∨ ∃ t, t < nt ∧ tg = nI t) := by
  have hn := hV.ncl
  have hδ := hV.1.1
  have hD := hV.2.2.2.1
  have hnt := hD.1.2.1
  have hP' := hP
  obtain ⟨f, c, r⟩ := hP
  unfold f_X5_takeTarget f_X11_target
  rw [c.2.2.2.1, r.2.2.2.2.1]
  by_cases hk : κ = 1
  · rw [if_pos (show nI κ = (1 : Int32) by rw [hk]; rfl), if_pos ((zRr_1 f.2.2.2.1).1.mpr hk)]
    obtain ⟨j, hR⟩ := zRun_ex (P := fun t => ¬ (κ = 1 ∧ W t = zWd b s (e - s))) (x := nt) nt 0 (by omega)
    have hj := hR.2.1
    rw [zc_findTag hN f c (hD.2.1.2.2.2.1.trans hD.1.2.2.2.2.2.2.1) hnt hD.2.2.2.1 hR, xb_some, hD.1.2.2.2.2.2.2.1, r.2.2.2.2.2.2 hk, zs_find hN f hk ((hV.2.2.1.k 309).trans hV.1.2.2.2.2.2.1) hnt (by omega) hD.2.2.2.1 hR, xb_some]
    simp only [xl]
    have n47 : (47 : Int32) + nI nc = nI (47 + nc) := nI_add 47 nc
    -- what follows a target
    have go : ∀ tg : Int32, (tg = -1 ∨ ∃ t, t < nt ∧ tg = nI t) → ∃ hc1 hr1 s' e' κ', f_X9_advance N (xm_si hc 161 2 tg) = some ((), hc1) ∧ f_X11_advance N (xm_si hr 307 (47 + nc) tg) = some (1, hr1) ∧ e ≤ s' ∧ zPT b x s' e' κ' hc1 hr1 ∧ zEq hc1 hr1 ∧ zV0 L xs δ h0 k0 nc nt nf na W V k hc1 hr1 ∧ zF zCA hc hc1 ∧ zFm (fun a k => zRB a k ∨ (a = 307 ∧ k = 47 + nc)) zTM hr hr1 ∧ xm_i hc1 161 2 = tg ∧ xm_i hr1 307 (47 + nc) = tg := by
      intro tg htg
      have F1 : zF (fun a k => a = 161 ∧ k = 2) hc (xm_si hc 161 2 tg) := zF.si ⟨rfl, rfl⟩
      have G1 : zFm (fun a k => a = 307 ∧ k = 47 + nc) (fun _ _ => False) hr (xm_si hr 307 (47 + nc) tg) := (zF.si ⟨rfl, rfl⟩).fm
      have P1 := hP'.fr (R := fun _ _ => False) F1.xr G1 hn (fun a k z1 z => by omega) (fun a k z1 z => by omega) (fun z => z)
      have E1 := hE.fr (R := fun _ _ => False) F1.xr G1 hn (fun k z1 z => by omega) (fun k z1 z => by omega)
      have V1 := hV.out (R := fun _ _ => False) F1.xr G1 (fun a k z => by unfold zA8; omega) (fun a k z => z.elim) (fun a k z => by unfold zB8; omega) (fun a k z => z.elim) hV.2.2.2.2.1 hV.2.2.2.2.2
      obtain ⟨hc3, hr3, s3, e3, κ3, d1, d2, d3, d4, P3, E3, d7⟩ := zL_adv hN P1 E1
      exact ⟨hc3, hr3, s3, e3, κ3, d1, d2, d7, P3, E3, V1.st1 d3 d4, (F1.mono (fun a k z => by unfold zCA; omega)).tr (d3.mono (fun a k z => Or.inr z)), (G1.mono (fun a k z => Or.inr z) (fun a k z => z.elim)).tr (d4.mono (fun a k z => by unfold zTA at z; unfold zRB; omega) (fun a k z => z)), by rw [d3.i (by omega), xi_eq], by rw [d4.i (fun z => by unfold zTA at z; omega), xi_eq]⟩
    by_cases hjn : j = nt
    · rw [if_pos hjn, xi_eq, if_pos rfl, if_pos rfl]
      have F1 : zF (fun a k => a = 161 ∧ k = 2) hc (xm_si hc 161 2 (-1)) := zF.si ⟨rfl, rfl⟩
      have F1' : zF zCA hc (xm_si hc 161 2 (-1)) := F1.mono (fun a k z => by unfold zCA; omega)
      have P1 : zPT b x s e κ (xm_si hc 161 2 (-1)) hr := hP'.fr (R := fun _ _ => False) (B := fun _ _ => False) (M := fun _ _ => False) F1.xr zFm.rf hn (fun a k z1 z => by omega) (fun a k z1 z => z) (fun z => z)
      have V1 : zV0 L xs δ h0 k0 nc nt nf na W V k (xm_si hc 161 2 (-1)) hr := hV.st F1' zFm.rf
      obtain ⟨w1, w2⟩ := zL_word (q := 7) (q' := 36) hN P1 V1 (by omega) (by omega) zKa.1
      have w1' : f_X9_spells N 17 (xm_si hc 161 2 (-1)) = _ := w1
      have w2' : f_X11_isWord N 75 hr = _ := w2
      rw [w1', w2', xb_some, xb_some]
      by_cases hany : κ = 1 ∧ zKw 7 = zWd b s (e - s)
      · right
        obtain ⟨hc3, hr3, s3, e3, κ3, d1, d2, d3, d4, d5, d6, d7, d8, d9, d10⟩ := go (-1) (Or.inl rfl)
        rw [if_neg (fun z => zi_d.mp z hany), if_neg (fun z => zi_d.mp z hany), n47, if_pos (zb_in (by omega) (by decide)), nI_clamp (by omega), d1, d2, xb_some, xb_some, if_pos (Or.inr rfl)]
        exact ⟨hc3, hr3, s3, e3, κ3, -1, rfl, rfl, d3, d4, d5, d6, d7, d8, d9, d10, Or.inl rfl⟩
      · left
        rw [if_pos (zi_d.mpr hany), if_pos (zi_d.mpr hany)]
        obtain ⟨hc', hr', a1, a2, a3, a4, a5⟩ := zL_fail (n := 4) (by omega) P1
        rw [a1, a2, xb_some, xb_some, if_pos (Or.inl rfl), if_pos (Or.inl rfl)]
        exact ⟨hc', hr', rfl, rfl, F1'.tr a3, a4, a5⟩
    · right
      have hne : ¬ nI j = (-1 : Int32) := fun z => absurd (congrArg Int32.toInt z) (by rw [nI_toInt (by omega)]; show ¬ ((j : Int) = -1); omega)
      obtain ⟨hc3, hr3, s3, e3, κ3, d1, d2, d3, d4, d5, d6, d7, d8, d9, d10⟩ := go (nI j) (Or.inr ⟨j, by omega, rfl⟩)
      rw [if_neg hjn, xi_eq, if_neg hne, if_neg hne, n47, if_pos (zb_in (by omega) (by decide)), nI_clamp (by omega), d1, d2, xb_some, xb_some, if_pos (Or.inr rfl)]
      exact ⟨hc3, hr3, s3, e3, κ3, nI j, rfl, rfl, d3, d4, d5, d6, d7, d8, d9, d10, Or.inr ⟨j, by omega, rfl⟩⟩
  · left
    rw [if_neg (show ¬ nI κ = (1 : Int32) from fun z => hk ((nI_eq (b := 1) (by have := f.2.2.2.1; omega) (by omega)).mp z)), if_neg (fun z => hk ((zRr_1 f.2.2.2.1).1.mp z))]
    obtain ⟨hc', hr', a1, a2, a3, a4, a5⟩ := zL_unex hP'
    rw [a1, a2, xb_some, xb_some, if_pos (Or.inl rfl), if_pos (Or.inl rfl)]
    exact ⟨hc', hr', rfl, rfl, a3, a4, a5⟩
end Fl3
