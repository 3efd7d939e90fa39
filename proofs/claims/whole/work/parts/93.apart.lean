/-! load: apart -/
section Apt
variable {N L δ nc nt nf na k x s e κ j : Nat} {xs : zV} {W V : Nat → List Nat} {b : Nat → Nat} {h0 k0 hc hr : xm_H}
theorem zc_isC (hN : 1000 ≤ N) (hk : κ = 1) (hj : j < nc) (hP : zPT b x s e κ hc hr) (hV : zV0 L xs δ h0 k0 nc nt nf na W V k hc hr) (hR : zRun (fun t => ¬ (κ = 1 ∧ V t = zWd b s (e - s))) nc 0 j) : f_X5_isCampaign N δ hc = some (1, xm_si hc 161 2 (nI j)) := by
  have hP' := hP
  obtain ⟨f, c, r⟩ := hP
  have hD := hV.2.2.2.1
  have hnc := hD.1.1
  have hw : κ = 1 ∧ V j = zWd b s (e - s) := Classical.byContradiction (hR.2.2.2 hj)
  have hany : ¬ (κ = 1 ∧ zKw 7 = zWd b s (e - s)) := fun z => (hD.2.2.2.2.1 j hj).2.2.2 (hw.2.trans z.2.symm)
  unfold f_X5_isCampaign
  obtain ⟨w1, w2⟩ := zL_word (q := 7) (q' := 36) hN hP' hV (by omega) (by omega) zKa.1
  have w1' : f_X9_spells N 17 hc = _ := w1
  have hne : ¬ nI j = (-1 : Int32) := fun z => absurd (congrArg Int32.toInt z) (by rw [nI_toInt (by omega)]; show ¬ ((j : Int) = -1); omega)
  rw [c.2.2.2.1, if_pos (show nI κ = (1 : Int32) by rw [hk]; rfl), w1', xb_some, if_pos (zi_d.mpr hany), zc_findCampaign hN f c (hD.2.1.2.2.2.2.1.trans hD.1.2.2.2.2.2.1) hnc hD.2.2.2.2.1 hR, xb_some, if_neg (show ¬ j = nc by omega)]
  simp only [xl]
  rw [xi_eq, if_neg hne]
theorem zL_apt (hN : 1000 ≤ N) (hκ : κ = 1) (hP : zPT b x s e κ hc hr) (hE : zEq hc hr) (hse : s < e) (hV : zV0 L xs δ h0 k0 nc nt nf na W V (nc + nt) hc hr) : zSR L xs δ h0 k0 b x s (f_X5_apart N δ hc) (zCl N (f_X11_apartStatement N hr)) := by
  have h14 := hV.k14
  have hδ := hV.1.1
  have hnc := hV.2.2.2.1.1.1
  have hna := hV.2.2.2.1.1.2.2.2.2.1
  have d8 : xm_i hc δ 8 = nI na := hV.2.2.2.1.2.2.1
  have r63 : xm_i hr 307 63 = nI na := hV.2.2.2.1.1.2.2.2.2.2.2.2.2.1
  unfold f_X5_apart f_X11_apartStatement
  rw [d8, r63]
  by_cases h8 : na < 8
  · rw [if_pos (show nI na < (8 : Int32) from nI_lt (b := 8) h8 (by omega)), if_neg (show ¬ nI na = (8 : Int32) from fun z => absurd ((nI_eq (b := 8) (by omega) (by omega)).mp z) (by omega))]
    obtain ⟨hc1, hr1, s1, e1, κ1, a1, a2, a3, a4, P1, E1, a7⟩ := zL_adv hN hP hE
    have V1 := hV.st1 a3 a4
    have hn1 := V1.ncl
    have hs1 := P1.1.1
    rw [a1, a2, xb_some, xb_some]
    obtain ⟨j1, hR1⟩ := zRun_ex (P := fun t => ¬ (κ1 = 1 ∧ V t = zWd b s1 (e1 - s1))) (x := nc) nc 0 (by omega)
    rcases zL_isC hN P1 V1 hR1 with hb | ⟨hj1, hκ1, b1, b2⟩
    · refine zSR.bad (by omega) V1 ?_
      obtain ⟨hc', hr', c1, c2, c3, c4, c5⟩ := hb
      refine ⟨hc', hr', by rw [c1, xb_some, if_pos rfl], ?_, c3, c4, c5⟩
      unfold zCl
      rw [c2, xb_some, if_pos rfl, xb_some, if_pos rfl]
    have F2 : zF (fun a k => a = 161 ∧ k = 2) hc1 (xm_si hc1 161 2 (nI j1)) := zF.si ⟨rfl, rfl⟩
    have G2 : zFm (fun a k => a = 302 ∧ k = 23) (fun _ _ => False) hr1 (xm_si hr1 302 23 (nI j1)) := (zF.si ⟨rfl, rfl⟩).fm
    have P2 := P1.fr (R := fun _ _ => False) F2.xr G2 hn1 (fun a k z1 z => by omega) (fun a k z1 z => by omega) (fun z => z)
    have E2 := E1.fr (R := fun _ _ => False) F2.xr G2 hn1 (fun k z1 z => by omega) (fun k z1 z => by omega)
    have V2 := V1.st (F2.mono (fun a k z => by unfold zCA; omega)) (G2.mono (fun a k z => by unfold zRB; omega) (fun a k z => z.elim))
    obtain ⟨hc3, hr3, s3, e3, κ3, d1, d2, d3, d4, P3, E3, d7⟩ := zL_adv hN P2 E2
    have V3 := V2.st1 d3 d4
    have hn3 := V3.ncl
    have hs3 := P3.1.1
    have D3 := V3.2.2.2.1
    have m2 : xm_i hr3 302 23 = nI j1 := by rw [d4.i (fun z => by unfold zTA at z; omega), xi_eq]
    have mm : xm_i (xm_si hc1 161 2 (nI j1)) 161 2 = nI j1 := xi_eq
    rw [b1, b2, xb_some, if_neg (show ¬ (1 : Int32) = 0 by decide), d1, d2, xb_some, xb_some, if_pos (Or.inr rfl), xb_some, if_neg (show ¬ (1 : Int32) = 0 by decide), mm]
    obtain ⟨j2, hR2⟩ := zRun_ex (P := fun t => ¬ (κ3 = 1 ∧ V t = zWd b s3 (e3 - s3))) (x := nc) nc 0 (by omega)
    have hj2' := hR2.2.1
    -- the second name, when it isn't the first again
    have go : j2 ≠ j1 → zSR L xs δ h0 k0 b x s (xb (f_X5_isCampaign N δ hc3) fun v12 h13 => if v12 = 0 then some ((0 : Int32), h13) else if xm_i h13 161 2 = nI j1 then xb (f_X5_fail 4 h13) fun v17 h18 => if v17 = 0 ∨ v17 = 1 then some (v17, h18) else none else xb (f_X9_advance N h13) fun v21 h22 => if xin (nI j1) 8 then (xl (xm_si h22 (δ + 10 + Int32.toNatClampNeg (nI j1)) 7 ((xm_i h22 (δ + 10 + Int32.toNatClampNeg (nI j1)) 7) ||| ((1 : Int32) <<< ((xm_i h22 161 2) &&& 31)))) fun h25 => (if xin (xm_i h25 161 2) 8 then (xl (xm_si h25 (δ + 10 + Int32.toNatClampNeg (xm_i h25 161 2)) 7 ((xm_i h25 (δ + 10 + Int32.toNatClampNeg (xm_i h25 161 2)) 7) ||| ((1 : Int32) <<< ((nI j1) &&& 31)))) fun h28 => (xl (xm_si h28 δ 8 ((xm_i h28 δ 8) + (1 : Int32))) fun h30 => (xb (f_X5_takeSemicolon N h30) fun v32 h33 => (if v32 = 0 ∨ v32 = 1 then (some (v32, h33)) else none)))) else none)) else none) (zCl N (xb (f_X11_campaignName N hr3) fun v22 h23 => (if v22 = 0 then (some ((0 : Int32), h23)) else (if xin ((64 : Int32) + (xm_i h23 307 63)) 72 then (xl (xm_si h23 307 (Int32.toNatClampNeg ((64 : Int32) + (xm_i h23 307 63))) (((1 : Int32) <<< ((nI j1) &&& 31)) ||| ((1 : Int32) <<< ((xm_i h23 302 23) &&& 31)))) fun h27 => (xl (xm_si h27 307 63 ((xm_i h27 307 63) + (1 : Int32))) fun h29 => (some ((1 : Int32), h29)))) else none)))) := by
      intro hne
      rcases zL_isC hN P3 V3 hR2 with hb | ⟨hj2, hκ3, g1, g2⟩
      · refine zSR.bad (by omega) V3 ?_
        obtain ⟨hc', hr', c1, c2, c3, c4, c5⟩ := hb
        refine ⟨hc', hr', by rw [c1, xb_some, if_pos rfl], ?_, c3, c4, c5⟩
        unfold zCl
        rw [c2, xb_some, if_pos rfl, xb_some, if_pos rfl]
      have F4 : zF (fun a k => a = 161 ∧ k = 2) hc3 (xm_si hc3 161 2 (nI j2)) := zF.si ⟨rfl, rfl⟩
      have G4 : zFm (fun a k => a = 302 ∧ k = 23) (fun _ _ => False) hr3 (xm_si hr3 302 23 (nI j2)) := (zF.si ⟨rfl, rfl⟩).fm
      have P4 := P3.fr (R := fun _ _ => False) F4.xr G4 hn3 (fun a k z1 z => by omega) (fun a k z1 z => by omega) (fun z => z)
      have E4 := E3.fr (R := fun _ _ => False) F4.xr G4 hn3 (fun k z1 z => by omega) (fun k z1 z => by omega)
      have V4 := V3.st (F4.mono (fun a k z => by unfold zCA; omega)) (G4.mono (fun a k z => by unfold zRB; omega) (fun a k z => z.elim))
      obtain ⟨hc5, hr5, s5, e5, κ5, o1, o2, o3, o4, P5, E5, o7⟩ := zL_adv hN P4 E4
      have V5 := V4.st1 o3 o4
      have hn5 := V5.ncl
      have D5 := V5.2.2.2.1
      have hs5 := P5.1.1
      have q1 : xm_i hc5 161 2 = nI j2 := by rw [o3.i (by omega), xi_eq]
      have q2 : xm_i hr5 302 23 = nI j2 := by rw [o4.i (fun z => by unfold zTA at z; omega), xi_eq]
      obtain ⟨_, _, _, mp, p1, p2, _⟩ := D5.2.1.2.2.2.2.2.2 j1 hj1
      obtain ⟨_, _, _, mq, p3, p4, _⟩ := D5.2.1.2.2.2.2.2.2 j2 hj2
      have r63q : xm_i hr5 307 63 = nI na := D5.1.2.2.2.2.2.2.2.2.1
      have d8q : xm_i hc5 δ 8 = nI na := D5.2.2.1
      rw [g1, g2, xb_some, if_neg (show ¬ (1 : Int32) = 0 by decide), xi_eq, if_neg (fun z => hne ((nI_eq (by omega) (by omega)).mp z)), o1, o2, xb_some, xb_some, if_pos (Or.inr rfl), xb_some, if_neg (show ¬ (1 : Int32) = 0 by decide), if_pos (zb_in (c := j1) (n := 8) (by omega) (by decide)), r63q, show (64 : Int32) + nI na = nI (64 + na) from nI_add 64 na, if_pos (zb_in (c := 64 + na) (n := 72) (by omega) (by decide))]
      simp only [xl]
      rw [nI_clamp (show j1 < 2 ^ 31 by omega), nI_clamp (show 64 + na < 2 ^ 31 by omega), q1, q2, p2, zb_1sh j1 (by omega), zb_1sh j2 (by omega), zb_or, zb_or, xi_ne (show (161 : Nat) ≠ δ + 10 + j1 by omega), q1, if_pos (zb_in (c := j2) (n := 8) (by omega) (by decide)), nI_clamp (show j2 < 2 ^ 31 by omega), xi_ne (show δ + 10 + j2 ≠ δ + 10 + j1 by omega), p4, zb_or, xi_nk (show (8 : Nat) ≠ 7 by decide), xi_nk (show (8 : Nat) ≠ 7 by decide), d8q, xi_nk (show (63 : Nat) ≠ 64 + na by omega), r63q, nI_1]
      unfold zCl
      rw [xb_some, if_neg (by decide)]
      have V6 := V5.ap (p := j1) (q := j2) (mp := mp) (mq := mq) hj1 hj2 (fun z => hne z.symm) h8 p2 p4
      have F6 : zF (fun a k => δ ≤ a ∧ a ≤ δ + 17) hc5 (xm_si (xm_si (xm_si hc5 (δ + 10 + j1) 7 (nI (mp ||| 2 ^ j2))) (δ + 10 + j2) 7 (nI (mq ||| 2 ^ j1))) δ 8 (nI (na + 1))) := ((zF.si (by omega)).st (by omega)).st (by omega)
      have G6 : zF (fun a _ => a = 307) hr5 (xm_si (xm_si hr5 307 (64 + na) (nI (2 ^ j1 ||| 2 ^ j2))) 307 63 (nI (na + 1))) := (zF.si (A := fun a (_ : Nat) => a = 307) rfl).st rfl
      exact zL_end hN (P5.fr (R := fun _ _ => False) (M := fun _ _ => False) F6.xr G6.fm hn5 (fun a k z1 z => by omega) (fun a k z1 z => by omega) (fun z => z)) (E5.fr (R := fun _ _ => False) (M := fun _ _ => False) F6.xr G6.fm hn5 (fun k z1 z => by omega) (fun k z1 z => by omega)) (by omega) V6
    have r14 : xm_i hr3 307 14 = nI nc := D3.1.2.2.2.2.2.1
    rw [P3.2.2.2.2.2.2.1, m2]
    by_cases hk : κ3 = 1
    · rw [if_pos ((zRr_1 P3.1.2.2.2.1).1.mpr hk), r14, P3.2.2.2.2.2.2.2.2 hk, zs_find hN P3.1 hk ((V3.2.2.1.k 310).trans V3.1.2.2.2.2.2.2) hnc (by omega) D3.2.2.2.2.1 hR2, xb_some]
      by_cases hsame : j2 = j1
      · have hc4 := zc_isC hN hk (show j2 < nc by omega) P3 V3 hR2
        rw [if_neg (show ¬ j2 = nc by omega), if_pos (by rw [hsame]), hc4, xb_some, if_neg (show ¬ (1 : Int32) = 0 by decide), xi_eq, if_pos (by rw [hsame])]
        have F4 : zF (fun a k => a = 161 ∧ k = 2) hc3 (xm_si hc3 161 2 (nI j2)) := zF.si ⟨rfl, rfl⟩
        have P4 : zPT b x s3 e3 κ3 (xm_si hc3 161 2 (nI j2)) hr3 := P3.fr (R := fun _ _ => False) (B := fun _ _ => False) (M := fun _ _ => False) F4.xr zFm.rf hn3 (fun a k z1 z => by omega) (fun a k z1 z => z) (fun z => z)
        exact zSR.bad (by omega) V3 (zFb.tr (F4.mono (fun a k z => by unfold zCA; omega)) zFm.rf (zFb.sg (N := N) (n := 4) (by omega) P4))
      · rw [if_neg (show ¬ (if j2 = nc then (-1 : Int32) else nI j2) = nI j1 from fun z => by
          by_cases hjn : j2 = nc
          · rw [if_pos hjn] at z
            exact absurd (congrArg Int32.toInt z.symm) (by rw [nI_toInt (by omega)]; show ¬ ((j1 : Int) = -1); omega)
          · rw [if_neg hjn] at z
            exact hsame ((nI_eq (by omega) (by omega)).mp z))]
        exact go hsame
    · rw [if_neg (fun z => hk ((zRr_1 P3.1.2.2.2.1).1.mp z))]
      have hjn : j2 = nc := by
        rcases Nat.lt_or_ge j2 nc with z | z
        · exact absurd (fun y => hk y.1) (hR2.2.2.2 z)
        · omega
      exact go (by omega)
  · rw [if_neg (show ¬ nI na < (8 : Int32) from nI_nlt (b := 8) (by omega) (by omega)), if_pos (show nI na = (8 : Int32) by rw [show na = 8 by omega]; rfl)]
    exact zSR.bad (by omega) hV (zFb.sg (N := N) (n := 5) (by omega) hP)
end Apt
