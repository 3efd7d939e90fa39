/-! load: day, attribute, pace -/
section S1
variable {N L δ nc nt nf na x s e κ : Nat} {xs : zV} {W V : Nat → List Nat} {b : Nat → Nat} {h0 k0 hc hr : xm_H}
theorem zL_day (hN : 1000 ≤ N) (hP : zPT b x s e κ hc hr) (hE : zEq hc hr) (hse : s < e) (hV : zV0 L xs δ h0 k0 nc nt nf na W V (nc + nt) hc hr) : zSR L xs δ h0 k0 b x s (f_X5_day N δ hc) (zCl N (f_X11_ticks N (0 : Int32) hr)) := by
  have h14 := hV.k14
  have hδ := hV.1.1
  unfold f_X5_day f_X11_ticks f_X11_numberTo zCl
  obtain ⟨hc1, hr1, s1, e1, κ1, a1, a2, a3, a4, P1, E1, a7⟩ := zL_adv hN hP hE
  have V1 := hV.st1 a3 a4
  rw [a1, a2, xb_some, xb_some]
  rcases zL_num' (x1 := 1) (x2 := 999) (lo := 1) (hi := 999) hN rfl rfl (by omega) (by omega) P1 E1 with hb | ⟨hc2, hr2, s2, e2, κ2, v, b1, b2, b3, b4, P2, E2, b7, b8, b9, b10, b11⟩
  · refine zSR.bad (by omega) V1 ?_
    obtain ⟨hc', hr', c1, c2, c3, c4, c5⟩ := hb
    exact ⟨hc', hr', by rw [c1, xb_some, if_pos rfl], by rw [c2, xb_some, if_pos rfl, xb_some, if_pos (Or.inl rfl), xb_some, if_pos rfl], c3, c4, c5⟩
  · have V2 := V1.st b3 b4
    have hn2 := V2.ncl
    have hs2 := P1.1.1
    rw [b1, b2, xb_some, xb_some, if_neg (by decide), if_neg (by decide), if_pos (show xin (0 : Int32) 72 by decide)]
    simp only [xl]
    rw [b10, b11, xb_some, if_pos (Or.inr rfl), xb_some, if_neg (by decide), show Int32.toNatClampNeg (0 : Int32) = 0 from rfl]
    have V3 := V2.d0 (v := v) ⟨b8, b9⟩
    have F3 : zF (fun a k => a = δ ∧ k = 0) hc2 (xm_si hc2 δ 0 (nI v)) := zF.si ⟨rfl, rfl⟩
    have G3 : zFm (fun a k => a = 307 ∧ k = 0) (fun _ _ => False) hr2 (xm_si hr2 307 0 (nI v)) := (zF.si ⟨rfl, rfl⟩).fm
    exact zL_end hN (P2.fr (R := fun _ _ => False) F3.xr G3 hn2 (fun a k z1 z => by omega) (fun a k z1 z => by omega) (fun z => z)) (E2.fr (R := fun _ _ => False) F3.xr G3 hn2 (fun k z1 z => by omega) (fun k z1 z => by omega)) (by omega) V3
theorem zL_att (hN : 1000 ≤ N) (hP : zPT b x s e κ hc hr) (hE : zEq hc hr) (hse : s < e) (hV : zV0 L xs δ h0 k0 nc nt nf na W V (nc + nt) hc hr) : zSR L xs δ h0 k0 b x s (f_X5_attribution N δ hc) (zCl N (f_X11_ticks N (1 : Int32) hr)) := by
  have h14 := hV.k14
  have hδ := hV.1.1
  unfold f_X5_attribution f_X11_ticks f_X11_numberTo zCl
  obtain ⟨hc1, hr1, s1, e1, κ1, a1, a2, a3, a4, P1, E1, a7⟩ := zL_adv hN hP hE
  have V1 := hV.st1 a3 a4
  rw [a1, a2, xb_some, xb_some]
  rcases zL_num' (x1 := 1) (x2 := 999) (lo := 1) (hi := 999) hN rfl rfl (by omega) (by omega) P1 E1 with hb | ⟨hc2, hr2, s2, e2, κ2, v, b1, b2, b3, b4, P2, E2, b7, b8, b9, b10, b11⟩
  · refine zSR.bad (by omega) V1 ?_
    obtain ⟨hc', hr', c1, c2, c3, c4, c5⟩ := hb
    exact ⟨hc', hr', by rw [c1, xb_some, if_pos rfl], by rw [c2, xb_some, if_pos rfl, xb_some, if_pos (Or.inl rfl), xb_some, if_pos rfl], c3, c4, c5⟩
  · have V2 := V1.st b3 b4
    have hn2 := V2.ncl
    have hs2 := P1.1.1
    rw [b1, b2, xb_some, xb_some, if_neg (by decide), if_neg (by decide), if_pos (show xin (1 : Int32) 72 by decide)]
    simp only [xl]
    rw [b10, b11, xb_some, if_pos (Or.inr rfl), xb_some, if_neg (by decide), show Int32.toNatClampNeg (1 : Int32) = 1 from rfl]
    have V3 := V2.d1 (v := v) ⟨b8, b9⟩
    have F3 : zF (fun a k => a = δ ∧ k = 1) hc2 (xm_si hc2 δ 1 (nI v)) := zF.si ⟨rfl, rfl⟩
    have G3 : zFm (fun a k => a = 307 ∧ k = 1) (fun _ _ => False) hr2 (xm_si hr2 307 1 (nI v)) := (zF.si ⟨rfl, rfl⟩).fm
    exact zL_end hN (P2.fr (R := fun _ _ => False) F3.xr G3 hn2 (fun a k z1 z => by omega) (fun a k z1 z => by omega) (fun z => z)) (E2.fr (R := fun _ _ => False) F3.xr G3 hn2 (fun k z1 z => by omega) (fun k z1 z => by omega)) (by omega) V3
theorem zL_pace (hN : 1000 ≤ N) (hP : zPT b x s e κ hc hr) (hE : zEq hc hr) (hse : s < e) (hV : zV0 L xs δ h0 k0 nc nt nf na W V (nc + nt) hc hr) : zSR L xs δ h0 k0 b x s (f_X5_pace N δ hc) (zCl N (f_X11_paceStatement N hr)) := by
  have h14 := hV.k14
  have hδ := hV.1.1
  have hnc := hV.2.2.2.1.1.1
  unfold f_X5_pace f_X11_paceStatement zCl
  obtain ⟨hc1, hr1, s1, e1, κ1, a1, a2, a3, a4, P1, E1, a7⟩ := zL_adv hN hP hE
  have V1 := hV.st1 a3 a4
  have hn1 := V1.ncl
  have hs1 := P1.1.1
  rw [a1, a2, xb_some, xb_some]
  obtain ⟨j, hR⟩ := zRun_ex (P := fun t => ¬ (κ1 = 1 ∧ V t = zWd b s1 (e1 - s1))) (x := nc) nc 0 (by omega)
  rcases zL_isC hN P1 V1 hR with hb | ⟨hj, hκ, b1, b2⟩
  · refine zSR.bad (by omega) V1 ?_
    obtain ⟨hc', hr', c1, c2, c3, c4, c5⟩ := hb
    exact ⟨hc', hr', by rw [c1, xb_some, if_pos rfl], by rw [c2, xb_some, if_pos rfl, xb_some, if_pos rfl], c3, c4, c5⟩
  · have F2 : zF (fun a k => a = 161 ∧ k = 2) hc1 (xm_si hc1 161 2 (nI j)) := zF.si ⟨rfl, rfl⟩
    have G2 : zFm (fun a k => a = 302 ∧ k = 23) (fun _ _ => False) hr1 (xm_si hr1 302 23 (nI j)) := (zF.si ⟨rfl, rfl⟩).fm
    have P2 := P1.fr (R := fun _ _ => False) F2.xr G2 hn1 (fun a k z1 z => by omega) (fun a k z1 z => by omega) (fun z => z)
    have E2 := E1.fr (R := fun _ _ => False) F2.xr G2 hn1 (fun k z1 z => by omega) (fun k z1 z => by omega)
    have V2 := V1.st (F2.mono (fun a k z => by unfold zCA; omega)) (G2.mono (fun a k z => by unfold zRB; omega) (fun a k z => z.elim))
    obtain ⟨hc3, hr3, s3, e3, κ3, d1, d2, d3, d4, P3, E3, d7⟩ := zL_adv hN P2 E2
    have V3 := V2.st1 d3 d4
    have hn3 := V3.ncl
    have hs3 := P3.1.1
    have m1 : xm_i hc3 161 2 = nI j := by rw [d3.i (by omega), xi_eq]
    have m2 : xm_i hr3 302 23 = nI j := by rw [d4.i (fun z => by unfold zTA at z; omega), xi_eq]
    rw [b1, b2, xb_some, if_neg (show ¬ (1 : Int32) = 0 by decide), d1, d2, xb_some, xb_some, if_pos (Or.inr rfl), xb_some, if_neg (show ¬ (1 : Int32) = 0 by decide), m1, if_pos (zb_in (by omega) (by decide)), nI_clamp (by omega)]
    obtain ⟨x1, y1⟩ := zL_word (q := 10) (q' := 39) hN P3 V3 (by omega) (by omega) zKa.2.2.2.2.2.2.2.1
    obtain ⟨x2, y2⟩ := zL_word (q := 11) (q' := 40) hN P3 V3 (by omega) (by omega) zKa.2.2.2.2.2.2.2.2.1
    obtain ⟨x3, y3⟩ := zL_word (q := 12) (q' := 41) hN P3 V3 (by omega) (by omega) zKa.2.2.2.2.2.2.2.2.2.1
    have x1' : f_X9_spells N 23 hc3 = _ := x1
    have x2' : f_X9_spells N 25 hc3 = _ := x2
    have x3' : f_X9_spells N 27 hc3 = _ := x3
    have y1' : f_X11_isWord N 81 hr3 = _ := y1
    have y2' : f_X11_isWord N 83 hr3 = _ := y2
    have y3' : f_X11_isWord N 85 hr3 = _ := y3
    -- what follows a mode
    have go : ∀ (m : Nat) (z : Int32), z = nI m → m ≤ 2 → zSR L xs δ h0 k0 b x s (xb (f_X9_advance N (xm_si hc3 (δ + 10 + j) 6 z)) fun _ h31 => xb (f_X5_takeSemicolon N h31) fun v h => if v = 0 ∨ v = 1 then some (v, h) else none) (xb (xb (f_X11_advance N (xm_si hr3 307 (55 + j) z)) fun v27 h28 => if v27 = 0 ∨ v27 = 1 then some (v27, h28) else none) fun v h => if v = 0 then some ((0 : Int32), h) else f_X11_closed N h) := by
      intro m z hz hm
      subst hz
      have V4 := V3.pc (c := j) (m := m) hj hm
      have F4 : zF (fun a k => a = δ + 10 + j ∧ k = 6) hc3 (xm_si hc3 (δ + 10 + j) 6 (nI m)) := zF.si ⟨rfl, rfl⟩
      have G4 : zFm (fun a k => a = 307 ∧ k = 55 + j) (fun _ _ => False) hr3 (xm_si hr3 307 (55 + j) (nI m)) := (zF.si ⟨rfl, rfl⟩).fm
      have P4 := P3.fr (R := fun _ _ => False) F4.xr G4 hn3 (fun a k z1 z => by omega) (fun a k z1 z => by omega) (fun z => z)
      have E4 := E3.fr (R := fun _ _ => False) F4.xr G4 hn3 (fun k z1 z => by omega) (fun k z1 z => by omega)
      obtain ⟨hc5, hr5, s5, e5, κ5, g1, g2, g3, g4, P5, E5, g7⟩ := zL_adv hN P4 E4
      have V5 := V4.st1 g3 g4
      rw [g1, g2, xb_some, xb_some, if_pos (Or.inr rfl), xb_some, if_neg (by decide)]
      exact zL_end hN P5 E5 (by omega) V5
    have nI55 : (55 : Int32) + nI j = nI (55 + j) := nI_add 55 j
    rw [x1', y1', xb_some, xb_some]
    by_cases w1 : κ3 = 1 ∧ zKw 10 = zWd b s3 (e3 - s3)
    · rw [if_neg (fun z => zi_d.mp z w1), if_neg (fun z => zi_d.mp z w1), m2, nI55, if_pos (zb_in (by omega) (by decide)), nI_clamp (by omega)]
      exact go 0 0 rfl (by omega)
    rw [if_pos (zi_d.mpr w1), if_pos (zi_d.mpr w1), x2', y2', xb_some, xb_some]
    by_cases w2 : κ3 = 1 ∧ zKw 11 = zWd b s3 (e3 - s3)
    · rw [if_neg (fun z => zi_d.mp z w2), if_neg (fun z => zi_d.mp z w2), m2, nI55, if_pos (zb_in (by omega) (by decide)), nI_clamp (by omega)]
      exact go 1 1 rfl (by omega)
    rw [if_pos (zi_d.mpr w2), if_pos (zi_d.mpr w2), x3', y3', xb_some, xb_some]
    by_cases w3 : κ3 = 1 ∧ zKw 12 = zWd b s3 (e3 - s3)
    · rw [if_neg (fun z => zi_d.mp z w3), if_neg (fun z => zi_d.mp z w3), m2, nI55, if_pos (zb_in (by omega) (by decide)), nI_clamp (by omega)]
      exact go 2 2 rfl (by omega)
    rw [if_pos (zi_d.mpr w3), if_pos (zi_d.mpr w3)]
    obtain ⟨hc', hr', c1, c2, c3, c4, c5⟩ := zL_unex P3
    rw [c1, c2, xb_some, xb_some, if_pos (Or.inl rfl), if_pos (Or.inl rfl), xb_some, if_pos rfl]
    exact zSR.bad (by omega) V3 ⟨hc', hr', rfl, rfl, c3, c4, c5⟩
end S1
