/-! load: what a statement leaves -/
def zEnd (L : Nat) (xs : zV) (δ : Nat) (h0 k0 hc hr : xm_H) : Prop := zE0 L xs δ h0 k0 ∧ zXr (zGA δ) (zGR δ) h0 hc ∧ zFm zHA zHM k0 hr ∧ zEq hc hr ∧ xm_n hc ≤ xm_n h0 + 60 ∧ xm_sz hc ≤ xm_sz h0 + 900
def zCl (N : Nat) (r : Option (Int32 × xm_H)) : Option (Int32 × xm_H) := xb r fun v h => if v = 0 then some ((0 : Int32), h) else f_X11_closed N h
def zSR (L : Nat) (xs : zV) (δ : Nat) (h0 k0 : xm_H) (b : Nat → Nat) (x s : Nat) (rc rr : Option (Int32 × xm_H)) : Prop := (∃ hc' hr', rc = some (0, hc') ∧ rr = some (0, hr') ∧ zEnd L xs δ h0 k0 hc' hr') ∨ ∃ hc' hr' s' e' κ' nc nt nf na W V, rc = some (1, hc') ∧ rr = some (1, hr') ∧ zPT b x s' e' κ' hc' hr' ∧ zEq hc' hr' ∧ s < s' ∧ zV0 L xs δ h0 k0 nc nt nf na W V (nc + nt) hc' hr'
section Sr
variable {N L δ nc nt nf na k x s s0 e κ lo hi j m r q : Nat} {x1 x2 v6 : Int32} {xs : zV} {W V : Nat → List Nat} {b : Nat → Nat} {A B R M : Nat → Nat → Prop} {h0 k0 hc hr hc' hr' : xm_H} {rc rr : Option (Int32 × xm_H)}
theorem zPT.fr (X : zXr A R hc hc') (G : zFm B M hr hr') (hn : 318 ≤ xm_n hc) (hA : ∀ a k, (a = 163 ∨ (a = 162 ∧ 2 ≤ k ∧ k ≤ 6)) → ¬ A a k) (hB : ∀ a k, (a = 306 ∨ (a = 302 ∧ 9 ≤ k ∧ k ≤ 13)) → ¬ B a k) (hM : ¬ M 302 16) (hP : zPT b x s e κ hc hr) : zPT b x s e κ hc' hr' := by
  obtain ⟨f, ⟨c1, c2, c3, c4, c5, c6⟩, r1, r2, r3, r4, r5, r6, r7⟩ := hP
  exact ⟨f, ⟨fun i hi => by rw [X.i (by omega) (hA _ _ (by omega))]; exact c1 i hi, by rw [X.i (by omega) (hA _ _ (by omega))]; exact c2, by rw [X.i (by omega) (hA _ _ (by omega))]; exact c3, by rw [X.i (by omega) (hA _ _ (by omega))]; exact c4, by rw [X.i (by omega) (hA _ _ (by omega))]; exact c5, fun z => by rw [X.i (by omega) (hA _ _ (by omega))]; exact c6 z⟩, fun i hi => by rw [G.i (hB _ _ (by omega))]; exact r1 i hi, by rw [G.i (hB _ _ (by omega))]; exact r2, by rw [G.i (hB _ _ (by omega))]; exact r3, by rw [G.i (hB _ _ (by omega))]; exact r4, by rw [G.i (hB _ _ (by omega))]; exact r5, fun z => by rw [G.i (hB _ _ (by omega))]; exact r6 z, fun z => by rw [G.l hM]; exact r7 z⟩
theorem zEq.fr (X : zXr A R hc hc') (G : zFm B M hr hr') (hn : 318 ≤ xm_n hc) (hA : ∀ k, (k = 4 ∨ k = 5) → ¬ A 161 k) (hB : ∀ k, (k = 14 ∨ k = 15) → ¬ B 302 k) (hE : zEq hc hr) : zEq hc' hr' := ⟨by rw [X.i (by omega) (hA _ (by omega)), G.i (hB _ (by omega))]; exact hE.1, by rw [X.i (by omega) (hA _ (by omega)), G.i (hB _ (by omega))]; exact hE.2⟩
theorem zV0.st (F : zF zCA hc hc') (G : zFm zRB zTM hr hr') (hV : zV0 L xs δ h0 k0 nc nt nf na W V k hc hr) : zV0 L xs δ h0 k0 nc nt nf na W V k hc' hr' := hV.out (R := fun _ _ => False) F.xr G (fun a k z => by unfold zCA at z; unfold zA8; omega) (fun a k z => z.elim) (fun a k z => Or.inl z) (fun a k z => Or.inl z) (by rw [F.n]; exact hV.2.2.2.2.1) (by rw [F.sz]; exact hV.2.2.2.2.2)
theorem zV0.st1 (F : zF (fun a k => a = 162 ∧ 3 ≤ k) hc hc') (G : zFm zTA zTM hr hr') (hV : zV0 L xs δ h0 k0 nc nt nf na W V k hc hr) : zV0 L xs δ h0 k0 nc nt nf na W V k hc' hr' := hV.st (F.mono (fun a k z => Or.inr z)) (G.mono (fun a k z => by unfold zTA at z; unfold zRB; omega) (fun a k z => z))
theorem zV0.fin (hk : k ≤ 15) (F : zF zCA hc hc') (G : zFm zRB zTM hr hr') (hE : zEq hc' hr') (hV : zV0 L xs δ h0 k0 nc nt nf na W V k hc hr) : zEnd L xs δ h0 k0 hc' hr' := by
  obtain ⟨v1, v2, v3, v4, v5, v6⟩ := hV.st F G
  exact ⟨v1, v2, v3, hE, by omega, by omega⟩
theorem zV0.k14 (hV : zV0 L xs δ h0 k0 nc nt nf na W V k hc hr) : nc + nt ≤ 14 := by
  have h1 := hV.2.2.2.1.1.1
  have h2 := hV.2.2.2.1.1.2.1
  omega
theorem zSR.bad (hk : k ≤ 15) (hV : zV0 L xs δ h0 k0 nc nt nf na W V k hc hr) (h : zFb rc rr hc hr) : zSR L xs δ h0 k0 b x s rc rr := by
  obtain ⟨hc', hr', a1, a2, a3, a4, a5⟩ := h
  exact Or.inl ⟨hc', hr', a1, a2, hV.fin hk a3 a4 a5⟩
theorem zL_end (hN : 1000 ≤ N) (hP : zPT b x s e κ hc hr) (hE : zEq hc hr) (hs : s0 < s) (hV : zV0 L xs δ h0 k0 nc nt nf na W V (nc + nt) hc hr) : zSR L xs δ h0 k0 b x s0 (xb (f_X5_takeSemicolon N hc) fun v h => if v = 0 ∨ v = 1 then some (v, h) else none) (f_X11_closed N hr) := by
  have h14 := hV.k14
  have hf := hP.1.1
  rcases zL_semi hN hP hE with hb | ⟨hc', hr', s', e', κ', a1, a2, a3, a4, a5, a6, a7⟩
  · refine zSR.bad (by omega) hV ?_
    obtain ⟨hc', hr', a1, a2, a3, a4, a5⟩ := hb
    exact ⟨hc', hr', by rw [a1, xb_some, if_pos (Or.inl rfl)], a2, a3, a4, a5⟩
  · exact Or.inr ⟨hc', hr', s', e', κ', nc, nt, nf, na, W, V, by rw [a1, xb_some, if_pos (Or.inr rfl)], a2, a5, a6, by omega, hV.st a3 a4⟩
theorem zL_num' (hN : 1000 ≤ N) (h1 : x1 = nI lo) (h2 : x2 = nI hi) (hlo : lo ≤ 9999) (hhi : hi ≤ 9999) (hP : zPT b x s e κ hc hr) (hE : zEq hc hr) : zFb (f_X5_takeNumber N x1 x2 hc) (f_X11_number N x1 x2 hr) hc hr ∨ ∃ hc' hr' s' e' κ' v, f_X5_takeNumber N x1 x2 hc = some (1, hc') ∧ f_X11_number N x1 x2 hr = some (1, hr') ∧ zF zCA hc hc' ∧ zFm zRB zTM hr hr' ∧ zPT b x s' e' κ' hc' hr' ∧ zEq hc' hr' ∧ e ≤ s' ∧ lo ≤ v ∧ v ≤ hi ∧ xm_i hc' 161 1 = nI v ∧ xm_i hr' 302 17 = nI v := by
  subst h1
  subst h2
  exact zL_num hN hlo hhi hP hE
theorem zFb.tr (F : zF zCA hc hc') (G : zFm zRB zTM hr hr') (h : zFb rc rr hc' hr') : zFb rc rr hc hr := by
  obtain ⟨hc2, hr2, a1, a2, a3, a4, a5⟩ := h
  exact ⟨hc2, hr2, a1, a2, F.tr a3, G.tr a4, a5⟩
/-- a campaign's name -/
theorem zL_isC (hN : 1000 ≤ N) (hP : zPT b x s e κ hc hr) (hV : zV0 L xs δ h0 k0 nc nt nf na W V k hc hr) (hR : zRun (fun t => ¬ (κ = 1 ∧ V t = zWd b s (e - s))) nc 0 j) : zFb (f_X5_isCampaign N δ hc) (f_X11_campaignName N hr) hc hr ∨ (j < nc ∧ κ = 1 ∧ f_X5_isCampaign N δ hc = some (1, xm_si hc 161 2 (nI j)) ∧ f_X11_campaignName N hr = xb (f_X11_advance N (xm_si hr 302 23 (nI j))) fun v h => if v = 0 ∨ v = 1 then some (v, h) else none) := by
  have hn := hV.ncl
  have hP' := hP
  obtain ⟨f, c, r⟩ := hP
  have hD := hV.2.2.2.1
  have hj := hR.2.1
  have hnc := hD.1.1
  unfold f_X5_isCampaign f_X11_campaignName
  rw [c.2.2.2.1, r.2.2.2.2.1]
  by_cases hk : κ = 1
  · rw [if_pos (show nI κ = (1 : Int32) by rw [hk]; rfl), if_pos ((zRr_1 f.2.2.2.1).1.mpr hk)]
    obtain ⟨w1, w2⟩ := zL_word (q := 7) (q' := 36) hN hP' hV (by omega) (by omega) zKa.1
    have w1' : f_X9_spells N 17 hc = _ := w1
    have w2' : f_X11_isWord N 75 hr = _ := w2
    rw [w1', w2', xb_some, xb_some]
    by_cases hany : κ = 1 ∧ zKw 7 = zWd b s (e - s)
    · left
      rw [if_neg (fun z => zi_d.mp z hany), if_neg (fun z => zi_d.mp z hany)]
      obtain ⟨hc', hr', a1, a2, a3, a4, a5⟩ := zL_unex hP'
      rw [a1, a2, xb_some, xb_some, if_pos (Or.inl rfl), if_pos (Or.inl rfl)]
      exact ⟨hc', hr', rfl, rfl, a3, a4, a5⟩
    · rw [if_pos (zi_d.mpr hany), if_pos (zi_d.mpr hany), zc_findCampaign hN f c (hD.2.1.2.2.2.2.1.trans hD.1.2.2.2.2.2.1) hnc hD.2.2.2.2.1 hR, xb_some, hD.1.2.2.2.2.2.1, r.2.2.2.2.2.2 hk, zs_find hN f hk ((hV.2.2.1.k 310).trans hV.1.2.2.2.2.2.2) hnc (by omega) hD.2.2.2.2.1 hR, xb_some]
      simp only [xl]
      rw [xi_eq, xi_eq]
      by_cases hjn : j = nc
      · left
        rw [if_pos hjn, if_pos rfl, if_pos rfl]
        have F : zF zCA hc (xm_si hc 161 2 (-1)) := zF.si (Or.inl rfl)
        have G : zFm zRB zTM hr (xm_si hr 302 23 (-1)) := (zF.si (by unfold zRB; omega)).fm
        have F1 : zF (fun a k => a = 161 ∧ k = 2) hc (xm_si hc 161 2 (-1)) := zF.si ⟨rfl, rfl⟩
        have G1 : zFm (fun a k => a = 302 ∧ k = 23) (fun _ _ => False) hr (xm_si hr 302 23 (-1)) := (zF.si ⟨rfl, rfl⟩).fm
        have hP2 : zPT b x s e κ (xm_si hc 161 2 (-1)) (xm_si hr 302 23 (-1)) := hP'.fr (R := fun _ _ => False) F1.xr G1 hn (fun a k z1 z => by omega) (fun a k z1 z => by omega) (fun z => z)
        obtain ⟨hc', hr', a1, a2, a3, a4, a5⟩ := zL_fail (n := 4) (by omega) hP2
        rw [a1, a2, xb_some, xb_some, if_pos rfl, if_pos (Or.inl rfl)]
        exact ⟨hc', hr', rfl, rfl, F.tr a3, G.tr a4, a5⟩
      · right
        have hne : ¬ nI j = (-1 : Int32) := fun z => absurd (congrArg Int32.toInt z) (by rw [nI_toInt (by omega)]; show ¬ ((j : Int) = -1); omega)
        rw [if_neg hjn, if_neg hne, if_neg hne]
        exact ⟨by omega, hk, rfl, rfl⟩
  · left
    rw [if_neg (show ¬ nI κ = (1 : Int32) from fun z => hk ((nI_eq (b := 1) (by have := f.2.2.2.1; omega) (by omega)).mp z)), if_neg (fun z => hk ((zRr_1 f.2.2.2.1).1.mp z))]
    obtain ⟨hc', hr', a1, a2, a3, a4, a5⟩ := zL_unex hP'
    rw [a1, a2, xb_some, xb_some, if_pos (Or.inl rfl), if_pos (Or.inl rfl)]
    exact ⟨hc', hr', rfl, rfl, a3, a4, a5⟩
/-- a new name -/
theorem zL_new (hN : 1000 ≤ N) (hP : zPT b x s e κ hc hr) (hV : zV0 L xs δ h0 k0 nc nt nf na W V k hc hr) (hk8 : xm_k hr r = (104, q)) (hq : m < q) (hq2 : q ≤ 100) (hr1 : 160 ≤ r) (hj : j ≤ m) (hfr : κ = 1 → f_X11_find N r (nI m) (xm_l hr 302 16) hr = some (if j = m then -1 else nI j, hr)) : zFb (f_X5_isNewName N (if j = m then -1 else nI j) hc) (f_X11_newName N r (nI m) hr) hc hr ∨ (κ = 1 ∧ j = m ∧ zWd b s (e - s) ≠ zKw 7 ∧ f_X5_isNewName N (-1) hc = some (1, hc) ∧ f_X11_newName N r (nI m) hr = xb (f_X11_advance N (xm_sl hr r m (xm_l hr 302 16))) fun v h => if v = 0 ∨ v = 1 then some (v, h) else none) := by
  have hP' := hP
  obtain ⟨f, c, r'⟩ := hP
  unfold f_X5_isNewName f_X11_newName
  rw [c.2.2.2.1, r'.2.2.2.2.1]
  by_cases hk : κ = 1
  · rw [if_pos (show nI κ = (1 : Int32) by rw [hk]; rfl), if_pos (show nI κ = (1 : Int32) by rw [hk]; rfl), if_pos ((zRr_1 f.2.2.2.1).1.mpr hk)]
    obtain ⟨w1, w2⟩ := zL_word (q := 7) (q' := 36) hN hP' hV (by omega) (by omega) zKa.1
    have w1' : f_X9_spells N 17 hc = _ := w1
    have w2' : f_X11_isWord N 75 hr = _ := w2
    rw [w1', w2', xb_some, xb_some, xb_some]
    by_cases hany : κ = 1 ∧ zKw 7 = zWd b s (e - s)
    · left
      rw [if_neg (fun z => zi_d.mp z hany), if_neg (fun z => zi_d.mp z hany)]
      obtain ⟨hc', hr', a1, a2, a3, a4, a5⟩ := zL_unex hP'
      rw [a1, a2, xb_some, xb_some, if_pos (Or.inl rfl), if_pos (Or.inl rfl)]
      exact ⟨hc', hr', rfl, rfl, a3, a4, a5⟩
    · rw [if_pos (zi_d.mpr hany), if_pos (zi_d.mpr hany), if_pos (zi_d.mpr hany), hfr hk, xb_some]
      by_cases hjn : j = m
      · right
        rw [if_pos hjn, if_pos rfl, if_pos rfl, if_pos (by rw [hk8]), if_pos (by rw [hk8]; exact zb_in hq (by show q < _; omega)), if_pos hr1, nI_clamp (by omega)]
        exact ⟨hk, hjn, fun z => hany ⟨hk, z.symm⟩, rfl, rfl⟩
      · left
        have hne : ¬ nI j = (-1 : Int32) := fun z => absurd (congrArg Int32.toInt z) (by rw [nI_toInt (by omega)]; show ¬ ((j : Int) = -1); omega)
        rw [if_neg hjn, if_neg hne, if_neg hne]
        obtain ⟨hc', hr', a1, a2, a3, a4, a5⟩ := zL_fail (n := 4) (by omega) hP'
        rw [a1, a2, xb_some, xb_some, if_pos rfl, if_pos (Or.inl rfl)]
        exact ⟨hc', hr', rfl, rfl, a3, a4, a5⟩
  · left
    rw [if_neg (show ¬ nI κ = (1 : Int32) from fun z => hk ((nI_eq (b := 1) (by have := f.2.2.2.1; omega) (by omega)).mp z)), if_neg (fun z => hk ((zRr_1 f.2.2.2.1).1.mp z))]
    obtain ⟨hc', hr', a1, a2, a3, a4, a5⟩ := zL_unex hP'
    rw [a1, a2, xb_some, xb_some, if_pos (Or.inl rfl), if_pos (Or.inl rfl)]
    exact ⟨hc', hr', rfl, rfl, a3, a4, a5⟩
end Sr
