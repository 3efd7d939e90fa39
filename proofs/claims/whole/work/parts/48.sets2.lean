/-! edits: setBudget, pause, resume, undo -/
section Set2
variable {N ρ δ nc nt nf na n nv ne la nb bo no cap L : Nat} {xs : zV} {S T : zV} {h h1 hc hr hm : xm_H} {x y z w : Int32}
theorem zo_setBudget (hN : 20000 ≤ N) (hI : zInv ρ δ nc nt nf na n nv ne la nb bo no cap L xs h) : zOp (f_L_setBudget ρ x y h) (f_X11_setBudget N x y) (zPo L xs h) := by
  have hn := hI.n
  have hnc := hI.wt.1
  have hb := fun g => zbtL 1 9999 y g (lo64 := 1) (hi64 := 9999) rfl rfl
  rcases zix x (n := nc) (by omega) with hx | ⟨c, hc, rfl⟩
  · refine (zop_bad (h := h) (k := 1) (b := 0) zks14 (by decide) ?_ ?_).mono (fun g hg => hg.po hI)
    · unfold f_L_setBudget f_X10_setBudget
      rw [zq_C0 hI.c7 hx, xe_inr, xe_inr]
      rfl
    · unfold f_X11_setBudget
      rw [zq_isC0 (n := nc) (by rw [xi_new (by omega)]; exact hI.T14) (by omega) hx, xb_some, hb, xb_some, if_pos rfl, zs_good__0, xb_some]
      rfl
  obtain ⟨b1, b2, ⟨sp, bu, b3, b3', b3'', b3n⟩, b4, b5, b6⟩ := hI.ws.2.2.2.2.2.1 c hc
  rcases zq_ix1 y (n := 9999) (by omega) with hy | ⟨k, hk1, hk2, rfl⟩
  · have hy' : y < 1 ∨ 9999 < y := hy
    refine (zop_bad (h := h) (k := 2) (b := 0) zks15 (by decide) ?_ ?_).mono (fun g hg => hg.po hI)
    · unfold f_L_setBudget f_X10_setBudget
      rw [zq_C1 hI.c7 (by omega) hc, xe_inl, zq_R0 hy', xe_inr, xe_inr]
      rfl
    · unfold f_X11_setBudget
      rw [zq_isC1 (n := nc) (by rw [xi_new (by omega)]; exact hI.T14) (by omega) hc, xb_some, hb, xb_some, if_neg (by decide), zs_of2 (by omega), xb_some, zbt_0 hy', zs_good__1, zs_good__1]
      simp only [xb_some]
      split
      · rfl
      · rfl
  have hl1 : ¬ nI k < 1 := nI_nlt (b := 1) (by omega) (by omega)
  have hl2 : ¬ (9999 : Int32) < nI k := nI_nlt (a := 9999) (by omega) (by omega)
  have e206 : xm_i h 206 c = xm_i h 303 (3 + 6 * c + 2) := (hI.ra.2.2.1.2.2.2.2.2 c hc).2.2.2.1
  by_cases hsp : k < sp
  · refine (zop_bad (h := h) (k := 3) (b := 0) zks16 (by decide) ?_ ?_).mono (fun g hg => hg.po hI)
    · unfold f_L_setBudget f_X10_setBudget
      rw [zq_C1 hI.c7 (by omega) hc, xe_inl, zq_R1 hl1 hl2, xe_inl, if_pos (zb_in (by omega) (by decide)), nI_clamp (by omega), e206, b3, if_pos (nI_lt hsp (by omega)), xe_inr]
      rfl
    · unfold f_X11_setBudget
      rw [zq_isC1 (n := nc) (by rw [xi_new (by omega)]; exact hI.T14) (by omega) hc, xb_some, hb, xb_some, if_neg (by decide), zs_of2 (by omega), xb_some, xi_new (by omega), b3, if_pos (nI_lt hsp (by omega)), zbt_1 hl1 hl2, zs_good__2, xb_some]
      rfl
  have hnl : ¬ nI k < nI sp := nI_nlt (by omega) (by omega)
  obtain ⟨h1, r1, r2, r3, r4⟩ := zc_rem hI
  have hF : zF (fun a _ => 201 ≤ a ∧ a ≤ 208) h1 (xm_si h1 204 c (nI k)) := zF.si (by omega)
  have eold : xm_i h1 204 c = xm_i h 303 (3 + 6 * c + 1) := (r3.2.2.1.2.2.2.2.2 c hc).2.1
  obtain ⟨hr, s1, s2, s3⟩ := zm_rem (N := N) (v := Int32.toInt64 (xm_i h 303 (3 + 6 * c + 1))) hN hI r2 (hF.mono (fun a k z => Or.inr (Or.inl z)))
  have hS' : xm_i (xm_si hr 303 (3 + 6 * c + 1) (nI k)) 303 = zU (xm_i h 303) (3 + 6 * c + 1) (nI k) := by rw [zU_si, s3.1]
  have eS : ∀ j, xm_i (xm_sl (xm_si h1 204 c (nI k)) 316 0 (Int32.toInt64 (xm_i h 303 (3 + 6 * c + 1)))) 303 j = xm_i h 303 j := fun j => by rw [xi_sl, xi_ne (by decide), r2.1.i (by unfold zA1; omega)]
  refine zed_set (hm := xm_si hr 303 (3 + 6 * c + 1) (nI k)) hI r2 hF ?_ s2 s3 ?_ (zF.si ⟨rfl, by omega, by omega⟩) ?_ ?_ ?_ ?_
  · unfold f_L_setBudget f_X10_setBudget
    rw [zq_C1 hI.c7 (by omega) hc, xe_inl, zq_R1 hl1 hl2, xe_inl, if_pos (zb_in (by omega) (by decide)), nI_clamp (by omega), e206, b3, if_neg hnl, r1, xb_some]
    simp only [xl]
    rw [xe_inl, eold]
  · unfold f_X11_setBudget
    rw [zq_isC1 (n := nc) (by rw [xi_sl, xi_ne (by decide), r2.1.i (by unfold zA1; omega)]; exact hI.T14) (by omega) hc, xb_some, hb, xb_some, if_neg (by decide), zs_of2 (by omega), xb_some, eS, b3, if_neg hnl, zbt_1 hl1 hl2, zs_good__3, xb_some, if_neg (by decide), s1, xb_some, zs_of1 (by omega), xb_some, zs_set1 (by omega), xb_some, s3.1]
  · rw [hS']
    exact zWC_at (c := c) hI.ws.2.2.2.2.2.1 (fun d hd w hw => zU_ne (by omega)) ⟨by rw [zU_ne (by omega)]; exact b1, by rw [zU_eq]; exact ⟨k, hk1, hk2, rfl⟩, ⟨sp, k, by rw [zU_ne (by omega)]; exact b3, by rw [zU_eq], by omega, by omega⟩, by rw [zU_ne (by omega)]; exact b4, by rw [zU_ne (by omega)]; exact b5, by rw [zU_ne (by omega)]; exact b6⟩
  · intro t ht
    rw [hS', zU_ne (by omega)]
    exact hI.ws.2.2.2.2.2.2.1 t ht
  · rw [hS']
    exact zRS_s1 (by omega) r3.2.2.1
  · intro i hi
    rw [xi_ne (by decide)]
    exact r4 i hi
theorem zo_pause (hN : 20000 ≤ N) (hI : zInv ρ δ nc nt nf na n nv ne la nb bo no cap L xs h) : zOp (f_L_pause ρ x h) (f_X11_pause N x) (zPo L xs h) := by
  have hn := hI.n
  have hnc := hI.wt.1
  rcases zix x (n := nc) (by omega) with hx | ⟨c, hc, rfl⟩
  · refine (zop_bad (h := h) (k := 1) (b := 0) zks14 (by decide) ?_ ?_).mono (fun g hg => hg.po hI)
    · unfold f_L_pause f_X10_pause
      rw [zq_C0 hI.c7 hx, xe_inr, xe_inr]
      rfl
    · unfold f_X11_pause f_X11_change
      rw [zq_isC0 (n := nc) (by rw [xi_new (by omega)]; exact hI.T14) (by omega) hx, xb_some, if_pos rfl, zs_good_0, xb_some, if_pos rfl, xb_some]
  obtain ⟨b1, b2, b3, b4, b5, ⟨pz, p1, p2, p3⟩⟩ := hI.ws.2.2.2.2.2.1 c hc
  have e208 : xm_i h 208 c = xm_i h 303 (3 + 6 * c + 5) := (hI.ra.2.2.1.2.2.2.2.2 c hc).2.2.2.2.2
  by_cases hpz : pz = 1
  · refine (zop_bad (h := h) (k := 2) (b := 0) zks16 (by decide) ?_ ?_).mono (fun g hg => hg.po hI)
    · unfold f_L_pause f_X10_pause
      rw [zq_C1 hI.c7 (by omega) hc, xe_inl, if_pos (zb_in (by omega) (by decide)), nI_clamp (by omega), e208, p3, hpz, if_neg (by decide), xe_inr]
      rfl
    · unfold f_X11_pause f_X11_change
      rw [zq_isC1 (n := nc) (by rw [xi_new (by omega)]; exact hI.T14) (by omega) hc, xb_some, if_neg (by decide), zs_of5 (by omega), xb_some, xi_new (by omega), p3, hpz, if_pos (show nI 1 = 1 from rfl), zs_good_1, xb_some, if_pos rfl, xb_some]
  have hpz2 : pz = 0 := by omega
  subst hpz2
  obtain ⟨h1, r1, r2, r3, r4⟩ := zc_rem hI
  have hF : zF (fun a _ => 201 ≤ a ∧ a ≤ 208) h1 (xm_si h1 208 c 1) := zF.si (by omega)
  obtain ⟨hr, s1, s2, s3⟩ := zm_rem (N := N) (v := Int32.toInt64 (zLf (xm_i h 303) c)) hN hI r2 (hF.mono (fun a k z => Or.inr (Or.inl z)))
  have hS' : xm_i (xm_si hr 303 (3 + 6 * c + 5) 1) 303 = zU (xm_i h 303) (3 + 6 * c + 5) 1 := by rw [zU_si, s3.1]
  have eS : ∀ j, xm_i (xm_sl (xm_si h1 208 c 1) 316 0 (Int32.toInt64 (zLf (xm_i h 303) c))) 303 j = xm_i h 303 j := fun j => by rw [xi_sl, xi_ne (by decide), r2.1.i (by unfold zA1; omega)]
  have hml : f_X2_moneyLeft (nI c) (xm_si h1 208 c 1) = some (zLf (xm_i h 303) c, xm_si h1 208 c 1) := by
    unfold f_X2_moneyLeft
    rw [if_pos (zb_in (by omega) (by decide)), nI_clamp (by omega), xi_ne (by decide), xi_ne (by decide), show xm_i h1 204 c = _ from (r3.2.2.1.2.2.2.2.2 c hc).2.1, show xm_i h1 206 c = _ from (r3.2.2.1.2.2.2.2.2 c hc).2.2.2.1]
    rfl
  refine zed_set (hm := xm_si hr 303 (3 + 6 * c + 5) 1) hI r2 hF ?_ s2 s3 ?_ (zF.si ⟨rfl, by omega, by omega⟩) ?_ ?_ ?_ ?_
  · unfold f_L_pause f_X10_pause
    rw [zq_C1 hI.c7 (by omega) hc, xe_inl, if_pos (zb_in (by omega) (by decide)), nI_clamp (by omega), e208, p3, if_pos (show nI 0 = 0 from rfl), r1, xb_some]
    simp only [xl]
    rw [hml, xb_some, xe_inl]
  · unfold f_X11_pause f_X11_change
    rw [zq_isC1 (n := nc) (by rw [xi_sl, xi_ne (by decide), r2.1.i (by unfold zA1; omega)]; exact hI.T14) (by omega) hc, xb_some, if_neg (by decide), zs_of5 (by omega), xb_some, eS, p3, if_neg (by decide), zs_good_2, xb_some, if_neg (by decide), s1, xb_some, zs_set5 (by omega), xb_some, zs_leftOf (by omega), xb_some, xb_some, hS']
    unfold zLf
    rw [zU_ne (by omega), zU_ne (by omega)]
  · rw [hS']
    exact zWC_at (c := c) hI.ws.2.2.2.2.2.1 (fun d hd w hw => zU_ne (by omega)) ⟨by rw [zU_ne (by omega)]; exact b1, by rw [zU_ne (by omega)]; exact b2, by rw [zU_ne (by omega), zU_ne (by omega)]; exact b3, by rw [zU_ne (by omega)]; exact b4, by rw [zU_ne (by omega)]; exact b5, by rw [zU_eq]; exact ⟨1, by omega, by omega, rfl⟩⟩
  · intro t ht
    rw [hS', zU_ne (by omega)]
    exact hI.ws.2.2.2.2.2.2.1 t ht
  · rw [hS']
    exact zRS_s5 (by omega) r3.2.2.1
  · intro i hi
    by_cases e : i = c
    · rw [e]
      exact Or.inr xi_eq
    · rw [xi_nk e]
      exact r4 i hi
theorem zo_resume (hN : 20000 ≤ N) (hI : zInv ρ δ nc nt nf na n nv ne la nb bo no cap L xs h) : zOp (f_L_resume ρ x h) (f_X11_resume N x) (zPo L xs h) := by
  have hn := hI.n
  have hnc := hI.wt.1
  rcases zix x (n := nc) (by omega) with hx | ⟨c, hc, rfl⟩
  · refine (zop_bad (h := h) (k := 1) (b := 0) zks14 (by decide) ?_ ?_).mono (fun g hg => hg.po hI)
    · unfold f_L_resume f_X10_resume
      rw [zq_C0 hI.c7 hx, xe_inr, xe_inr]
      rfl
    · unfold f_X11_resume f_X11_change
      rw [zq_isC0 (n := nc) (by rw [xi_new (by omega)]; exact hI.T14) (by omega) hx, xb_some, if_pos rfl, zs_good_0, xb_some, if_pos rfl, xb_some]
  obtain ⟨b1, b2, b3, b4, b5, ⟨pz, p1, p2, p3⟩⟩ := hI.ws.2.2.2.2.2.1 c hc
  have e208 : xm_i h 208 c = xm_i h 303 (3 + 6 * c + 5) := (hI.ra.2.2.1.2.2.2.2.2 c hc).2.2.2.2.2
  by_cases hpz : pz = 0
  · refine (zop_bad (h := h) (k := 2) (b := 0) zks16 (by decide) ?_ ?_).mono (fun g hg => hg.po hI)
    · unfold f_L_resume f_X10_resume
      rw [zq_C1 hI.c7 (by omega) hc, xe_inl, if_pos (zb_in (by omega) (by decide)), nI_clamp (by omega), e208, p3, hpz, if_pos (show nI 0 = 0 from rfl), xe_inr]
      rfl
    · unfold f_X11_resume f_X11_change
      rw [zq_isC1 (n := nc) (by rw [xi_new (by omega)]; exact hI.T14) (by omega) hc, xb_some, if_neg (by decide), zs_of5 (by omega), xb_some, xi_new (by omega), p3, hpz, if_pos (show nI 0 = 0 from rfl), zs_good_1, xb_some, if_pos rfl, xb_some]
  have hpz2 : pz = 1 := by omega
  subst hpz2
  obtain ⟨h1, r1, r2, r3, r4⟩ := zc_rem hI
  have hF : zF (fun a _ => 201 ≤ a ∧ a ≤ 208) h1 (xm_si h1 208 c 0) := zF.si (by omega)
  obtain ⟨hr, s1, s2, s3⟩ := zm_rem (N := N) (v := Int32.toInt64 (zLf (xm_i h 303) c)) hN hI r2 (hF.mono (fun a k z => Or.inr (Or.inl z)))
  have hS' : xm_i (xm_si hr 303 (3 + 6 * c + 5) 0) 303 = zU (xm_i h 303) (3 + 6 * c + 5) 0 := by rw [zU_si, s3.1]
  have eS : ∀ j, xm_i (xm_sl (xm_si h1 208 c 0) 316 0 (Int32.toInt64 (zLf (xm_i h 303) c))) 303 j = xm_i h 303 j := fun j => by rw [xi_sl, xi_ne (by decide), r2.1.i (by unfold zA1; omega)]
  have hml : f_X2_moneyLeft (nI c) (xm_si h1 208 c 0) = some (zLf (xm_i h 303) c, xm_si h1 208 c 0) := by
    unfold f_X2_moneyLeft
    rw [if_pos (zb_in (by omega) (by decide)), nI_clamp (by omega), xi_ne (by decide), xi_ne (by decide), show xm_i h1 204 c = _ from (r3.2.2.1.2.2.2.2.2 c hc).2.1, show xm_i h1 206 c = _ from (r3.2.2.1.2.2.2.2.2 c hc).2.2.2.1]
    rfl
  refine zed_set (hm := xm_si hr 303 (3 + 6 * c + 5) 0) hI r2 hF ?_ s2 s3 ?_ (zF.si ⟨rfl, by omega, by omega⟩) ?_ ?_ ?_ ?_
  · unfold f_L_resume f_X10_resume
    rw [zq_C1 hI.c7 (by omega) hc, xe_inl, if_pos (zb_in (by omega) (by decide)), nI_clamp (by omega), e208, p3, if_neg (by decide), r1, xb_some]
    simp only [xl]
    rw [hml, xb_some, xe_inl]
  · unfold f_X11_resume f_X11_change
    rw [zq_isC1 (n := nc) (by rw [xi_sl, xi_ne (by decide), r2.1.i (by unfold zA1; omega)]; exact hI.T14) (by omega) hc, xb_some, if_neg (by decide), zs_of5 (by omega), xb_some, eS, p3, if_neg (by decide), zs_good_2, xb_some, if_neg (by decide), s1, xb_some, zs_set5 (by omega), xb_some, zs_leftOf (by omega), xb_some, xb_some, hS']
    unfold zLf
    rw [zU_ne (by omega), zU_ne (by omega)]
  · rw [hS']
    exact zWC_at (c := c) hI.ws.2.2.2.2.2.1 (fun d hd w hw => zU_ne (by omega)) ⟨by rw [zU_ne (by omega)]; exact b1, by rw [zU_ne (by omega)]; exact b2, by rw [zU_ne (by omega), zU_ne (by omega)]; exact b3, by rw [zU_ne (by omega)]; exact b4, by rw [zU_ne (by omega)]; exact b5, by rw [zU_eq]; exact ⟨0, by omega, by omega, rfl⟩⟩
  · intro t ht
    rw [hS', zU_ne (by omega)]
    exact hI.ws.2.2.2.2.2.2.1 t ht
  · rw [hS']
    exact zRS_s5 (by omega) r3.2.2.1
  · intro i hi
    by_cases e : i = c
    · rw [e]
      exact Or.inl xi_eq
    · rw [xi_nk e]
      exact r4 i hi
/-- undo -/
theorem zo_undo (hN : 20000 ≤ N) (hI : zInv ρ δ nc nt nf na n nv ne la nb bo no cap L xs h) : zOq (f_X10_undo h) (f_X11_undo N) (zPo L xs h) := by
  have hn := hI.n
  have hnc := hI.wt.1
  have hnt := hI.wt.2.1
  have hI0 := hI
  obtain ⟨a1, a2, a3, a4, a5, a6, a7, a8, a9, a10⟩ := hI.2.2.2.1
  by_cases h0 : ne = 0
  · subst h0
    obtain ⟨v, g1, g2, e1, e2, e3⟩ := zoq_ok (r1 := f_X10_undo h) (r2 := f_X11_undo N) (h := h) (v := -1) (h2 := xm_si h 302 4 0) (by
      unfold f_X10_undo
      rw [a8, if_pos (show nI 0 = 0 from rfl)]) (by
      unfold f_X11_undo
      simp only [xl]
      rw [xi_nk (by decide), a7, if_pos (show nI 0 = 0 from rfl)]) (zF.si zscr4)
    exact ⟨v, g1, g2, e1, e2, e3.po hI⟩
  obtain ⟨m, rfl⟩ : ∃ m, ne = m + 1 := ⟨ne - 1, by omega⟩
  obtain ⟨nj, vj, Sj, b1, b2, b3, b4, b6, b5⟩ := a10 m (by omega)
  rw [show (la + 8 - (m + 1 - 1 - m)) % 8 = la by omega] at b5
  -- the class
  obtain ⟨h1, c1, c2⟩ := zcopy (v0 := 201) (v1 := 236 + 8 * la) (h := h) (by omega) b5.2.2.2.2.2.1
  have k1 : xm_i h1 234 1 = nI la := by rw [c2.1.i (by omega)]; exact a9
  have k2 : xm_i h1 234 2 = nI (m + 1) := by rw [c2.1.i (by omega)]; exact a8
  have hq : (nI la + 8 - 1) - (nI la + 8 - 1) / 8 * 8 = nI ((la + 7) % 8) := by
    rw [show (8 : Int32) = nI 8 from rfl, nI_add, show (1 : Int32) = nI 1 from rfl, pk_sub (by omega), show la + 8 - 1 = la + 7 by omega, pk_rem (by omega) (by omega) (by omega)]
  have hcl : f_X10_undo h = some (nI m, xm_si (xm_si h1 234 1 (nI ((la + 7) % 8))) 234 2 (nI m)) := by
    unfold f_X10_undo f_X3_restore
    rw [a8, if_neg (nI_ne0 (by omega) (by omega)), a9, if_pos (zb_in (by omega) (by decide)), nI_clamp (by omega), c1, xb_some]
    simp only [xl]
    rw [k1, hq, xi_nk (by decide), k2, nI_pred, xb_some, xi_eq]
  generalize hg : xm_si (xm_si h1 234 1 (nI ((la + 7) % 8))) 234 2 (nI m) = g at *
  have hFg : zF (fun a k => (201 ≤ a ∧ a ≤ 208) ∨ (a = 234 ∧ (k = 1 ∨ k = 2))) h g := by
    rw [← hg]
    exact ((c2.1.mono (B := fun a k => (201 ≤ a ∧ a ≤ 208) ∨ (a = 234 ∧ (k = 1 ∨ k = 2))) (fun a k z => Or.inl z)).st (Or.inr ⟨rfl, Or.inl rfl⟩)).st (Or.inr ⟨rfl, Or.inr rfl⟩)
  -- the reference
  obtain ⟨mm, ⟨c, g3⟩, ⟨q1, q2, q3, q4⟩, hE⟩ := zlpO (N := N) (F := fun n s => f_X11_undo_26 N n s.1 s.2) (I := fun i s => s.1 = nI i ∧ zF (fun a k => a = 303 ∧ k < 2217) (xm_si (xm_si g 302 4 0) 302 3 (nI m)) s.2 ∧ (∀ j, j < i → xm_i s.2 303 j = Sj j) ∧ ∀ j, 2217 ≤ j → xm_i s.2 303 j = xm_i h 303 j) (L := 2217) (s := (0, xm_si (xm_si g 302 4 0) 302 3 (nI m))) (by omega) ⟨rfl, zF.rf, fun j hj => by omega, fun j hj => by rw [xi_ne (by decide), xi_ne (by decide), hFg.i (by omega)]⟩ (by
    rintro mm i ⟨c, g3⟩ hi ⟨q1, q2, q3, q4⟩
    dsimp only at q1 q2 q3 q4 ⊢
    subst q1
    have e3 : xm_i g3 302 3 = nI m := by rw [q2.i (by omega), xi_eq]
    have e5 : xm_i g3 305 (2217 * m + i) = Sj i := by
      rw [q2.i (by omega), xi_ne (by decide), xi_ne (by decide), hFg.i (by omega)]
      exact b3 i hi
    refine ⟨(nI (i + 1), xm_si g3 303 i (Sj i)), ⟨rfl, q2.st ⟨rfl, hi⟩, fun j hj => ?_, fun j hj => ?_⟩, ?_⟩
    · dsimp only
      by_cases e : j = i
      · rw [e, xi_eq]
      · rw [xi_nk e]
        exact q3 j (by omega)
    · dsimp only
      rw [xi_nk (by omega)]
      exact q4 j hj
    · show f_X11_undo_26B N (f_X11_undo_26 N mm) (nI i) g3 = _
      unfold f_X11_undo_26B
      have hix : (2217 : Int32) * nI m + nI i = nI (2217 * m + i) := by rw [show (2217 : Int32) = nI 2217 from rfl, pk_mul, nI_add]
      rw [if_pos (show nI i < 2217 from nI_lt (b := 2217) hi (by decide)), e3, hix, if_pos (zb_in (by omega) (by decide)), if_pos (zb_in hi (by decide)), nI_clamp (n := i) (by omega), nI_clamp (n := 2217 * m + i) (by omega), e5, nI_1]
      rfl)
  dsimp only at q1 q2 q3 q4
  subst q1
  have e3 : xm_i g3 302 3 = nI m := by rw [q2.i (by omega), xi_eq]
  have hrow : xm_i g3 303 = Sj := funext fun j => by
    by_cases hj : j < 2217
    · exact q3 j hj
    · rw [q4 j (by omega)]
      exact (b4 j (by omega)).symm
  have hmod : f_X11_undo N g = some (nI m, g3) := by
    unfold f_X11_undo
    simp only [xl]
    rw [xi_nk (by decide), hFg.i (by omega), a7, if_neg (nI_ne0 (by omega) (by omega)), nI_pred]
    refine hE.trans ?_
    show f_X11_undo_26B N (f_X11_undo_26 N mm) (nI 2217) g3 = _
    unfold f_X11_undo_26B
    rw [if_neg (show ¬ nI 2217 < 2217 from zlt_irr (nI 2217)), e3]
  have hq2 : zF (fun a k => (a = 303 ∧ k < 2217) ∨ (a = 302 ∧ (k = 3 ∨ k = 4))) g g3 := ((zF.si (Or.inr ⟨rfl, Or.inr rfl⟩)).st (Or.inr ⟨rfl, Or.inl rfl⟩)).tr (q2.mono (fun a k z => Or.inl z))
  have X1 : zX (zAe n nv 236) h g := hFg.x.mono (fun a k z => by
    rcases z with z | z
    · exact Or.inl (Or.inr (Or.inl z))
    · exact Or.inr (Or.inr (Or.inr (Or.inr (Or.inl z)))))
  have X2 : zX (zAe n nv 236) g g3 := hq2.x.mono (fun a k z => by
    rcases z with z | ⟨z1, z | z⟩
    · exact Or.inr (Or.inl z.1)
    · exact Or.inr (Or.inr (Or.inr (Or.inl ⟨z1, z⟩)))
    · subst z1
      subst z
      exact Or.inl (Or.inl zscr4))
  have hX : zX (fun a k => (201 ≤ a ∧ a ≤ 208) ∨ (a = 234 ∧ (k = 1 ∨ k = 2)) ∨ a = 303 ∨ (a = 302 ∧ (k = 3 ∨ k = 4))) h g3 := (hFg.x.mono (fun a k z => by omega)).tr (hq2.x.mono (fun a k z => by omega))
  obtain ⟨s1, s2, s3, s4, s5, s6⟩ := zInv_rest (v := 236) (by omega) hI (X1.tr X2)
  have eT : xm_i g3 308 = xm_i h 308 := hX.row (by omega) (fun k z => by omega)
  have eH : xm_i g3 305 = xm_i h 305 := hX.row (by omega) (fun k z => by omega)
  have e201 : ∀ a k, 201 ≤ a → a ≤ 208 → xm_i g3 a k = xm_i h1 a k := fun a k z1 z2 => by
    rw [hq2.i (by omega), ← hg, xi_ne (by omega), xi_ne (by omega)]
  have hRS1 := c2.rs hnc hnt b5.2.2.2.2.1
  have hPz1 := c2.pz b5.2.2.2.2.2.1
  have hcur : zBlk 201 nc nt nj vj Sj (xm_i h 308) g3 := by
    refine ⟨b5.1, b5.2.1, b5.2.2.1, b5.2.2.2.1, ?_, fun i hi => by rw [e201 _ _ (by omega) (by omega)]; exact hPz1 i hi, zRI.fx hX hn (fun a k z1 z2 z3 z => by omega) b5.2.2.2.2.2.2.1, zRV.fx hX hn (fun a k z1 z2 z3 z => by omega) (fun k c z1 z2 z => by omega) b5.2.2.2.2.2.2.2⟩
    obtain ⟨d1, d2, d3, d4, d5, d6⟩ := hRS1
    refine ⟨(e201 _ _ (by omega) (by omega)).trans d1, (e201 _ _ (by omega) (by omega)).trans d2, (e201 _ _ (by omega) (by omega)).trans d3, (e201 _ _ (by omega) (by omega)).trans d4, fun t ht => (e201 _ _ (by omega) (by omega)).trans (d5 t ht), fun c hc' => ?_⟩
    obtain ⟨f1, f2, f3, f4, f5, f6⟩ := d6 c hc'
    exact ⟨(e201 _ _ (by omega) (by omega)).trans f1, (e201 _ _ (by omega) (by omega)).trans f2, (e201 _ _ (by omega) (by omega)).trans f3, (e201 _ _ (by omega) (by omega)).trans f4, (e201 _ _ (by omega) (by omega)).trans f5, (e201 _ _ (by omega) (by omega)).trans f6⟩
  have hr : ρ = 164 ∨ ρ = 183 := a1
  have hM : zMk ρ nc nt nf na nj vj m ((la + 7) % 8) g3 := by
    refine ⟨a1, by rw [eT]; exact a2, by rw [eT]; exact zRT.fx a1 hX hn (fun a k z1 z2 z => by omega) hnc a3, by rw [eT, hrow]; exact hcur, by omega, Nat.mod_lt _ (by omega), e3, ?_, ?_, fun j hj => ?_⟩
    · rw [hq2.i (by omega), ← hg, xi_eq]
    · rw [hq2.i (by omega), ← hg, xi_nk (by decide), xi_eq]
    · obtain ⟨nk, vk, Sk, d1, d2, d3, d4, d6, d5⟩ := a10 j (by omega)
      obtain ⟨p, q, p1, p2, p3, p4⟩ := b6 j (by omega)
      have hnk : p = nk := (nI_eq (by have := b5.2.2.1; omega) (by have := d5.2.2.1; omega)).mp (p3.symm.trans ((d3 1 (by omega)).trans d5.1.2.2.2.1))
      have hvk : q = vk := (nI_eq (by have := b5.1.2.1; omega) (by have := d5.1.2.1; omega)).mp (p4.symm.trans ((d3 2 (by omega)).trans d5.1.2.2.2.2.1))
      refine ⟨nk, vk, Sk, by omega, by omega, by rw [eH]; exact d3, fun i hi => ?_, by rw [eH]; exact d6, ?_⟩
      · rw [d4 i hi, q4 i hi]
      · rw [eT, show ((la + 7) % 8 + 8 - (m - 1 - j)) % 8 = (la + 8 - (m + 1 - 1 - j)) % 8 by omega]
        have hlt : (la + 8 - (m + 1 - 1 - j)) % 8 < 8 := Nat.mod_lt _ (by omega)
        generalize (la + 8 - (m + 1 - 1 - j)) % 8 = q5 at *
        exact zBlk.fx hX hn (by omega) (fun a k z1 z2 z => by omega) (fun a k z1 z2 z3 z => by omega) (fun a k z1 z2 z3 z => by omega) (fun k c z1 z2 z => by omega) d5
  refine ⟨nI m, g, g3, hcl, hmod, ⟨ρ, δ, nc, nt, nf, na, nj, vj, m, (la + 7) % 8, nb, bo, no, cap, s1, hI.2.1, s2, hM, s3, s4, s5, s6⟩, ?_, ?_⟩
  · rw [hq2.n, hFg.n]
    omega
  · rw [hq2.sz, hFg.sz]
    omega
end Set2
