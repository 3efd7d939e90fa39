/-! write: the reference; both -/
section Wu
variable {N ρ δ nc nt nf na n nv ne la nb bo no cap L c j m bo0 sp bu ef pz re md : Nat} {xs : zV} {S : zV} {h g h0 hm k : xm_H} {x : Int32} {l w : List Nat}
theorem zs_wtail (hN : 1000 ≤ N) (hK : zKon L xs k) (hn : 318 ≤ xm_n k) (hn4 : n ≤ 400) (eS : xm_i k 303 = S) (e1 : S 1 = nI n) (hU : ∀ i, i < n → zB 0 15 (S (57 + 5 * i + 1))) (hl : l.length ≤ 44) (hO : zOr l k) : ∃ k', (xb (f_X11_impressionsOf N (nI c) k) fun v73 h74 => (if 0 < v73 then (xb (f_X11_putText N 95 h74) fun v77 h78 => (xb (f_X11_reachOf N (nI c) h78) fun v80 h81 => (xb (f_X11_putNumber N v80 h81) fun v83 h84 => (some (xm_i h84 302 30, h84))))) else (some (xm_i h74 302 30, h74)))) = some (nI (zWr2 (zRe S c n) l).length, k') ∧ zF zAo k k' ∧ zOr (zWr2 (zRe S c n) l) k' := by
  subst eS
  have k2 := zKe.2.2.2.2.2.2
  have hr : zRe (xm_i k 303) c n ≤ 16 := zpc_le _
  have hs : (0 < zRe (xm_i k 303) c n) ↔ _ := zseen (U := fun i => xm_i k 303 (57 + 5 * i + 1)) (C := fun i => xm_i k 303 (57 + 5 * i + 2)) (c := nI c) hU
  rw [zs_impressionsOf hN hn4 e1, xb_some]
  by_cases h0 : 0 < zRe (xm_i k 303) c n
  · have hz := zct_le (fun j => decide (xm_i k 303 (57 + 5 * j + 2) = nI c)) n
    rw [if_pos (show (0 : Int32) < nI _ from nI_lt (a := 0) (hs.mp h0) (by omega))]
    obtain ⟨k1, p1, p2, p3⟩ := zs_putText (N := N) (a := 95) (b := 96) (w := zKw 46) hN (zCst (q := 46) hK hn (by omega)) (by omega) (by omega) (fun x hx => by have := (zKw_l 46).2 x hx; omega) (by rw [k2.1]; omega) hO
    have eS1 : xm_i k1 303 = xm_i k 303 := p2.row (fun i z => by unfold zAo at z; omega)
    have er : f_X11_reachOf N (nI c) k1 = some (nI (zRe (xm_i k 303) c n), k1) := by
      rw [zs_reachOf hN hn4 (by rw [eS1]; exact e1) (by rw [eS1]; exact hU), eS1]
      rfl
    obtain ⟨k3, r1, r2, r3⟩ := zs_putNumber (N := N) (q := zRe (xm_i k 303) c n) hN (by omega) (by rw [List.length_append, k2.1]; omega) p3
    rw [p1, xb_some, er, xb_some, r1, xb_some, r3.1]
    unfold zWr2
    rw [k2.1] at r3 ⊢
    rw [if_pos h0]
    exact ⟨k3, rfl, p2.tr r2, r3⟩
  · have hz : ¬ 0 < zct (fun j => decide (xm_i k 303 (57 + 5 * j + 2) = nI c)) n := fun z => h0 (hs.mpr z)
    rw [if_neg (show ¬ (0 : Int32) < nI _ from nI_nlt (a := 0) (by omega) (by omega)), hO.1]
    unfold zWr2
    rw [if_neg h0]
    exact ⟨k, rfl, zF.rf, hO⟩
def zAw (a k : Nat) : Prop := zAo a k ∨ (a = 302 ∧ k = 4)
theorem zs_write (hN : 1000 ≤ N) (hnc : nc ≤ 8) (hc : c < nc) (hK : zKon L xs g) (hn : 318 ≤ xm_n g) (hn4 : n ≤ 400) (eS : xm_i g 303 = S) (e14 : xm_i g 308 14 = nI nc) (e1 : S 1 = nI n) (hU : ∀ i, i < n → zB 0 15 (S (57 + 5 * i + 1))) (hL : xm_l g 311 c = lN (zPk w)) (hw : zLet w) (v1 : md ≤ 2) (v2 : sp ≤ 9999) (v3 : bu ≤ 9999) (v4 : ef ≤ 9999) (v5 : pz ≤ 1) (q1 : S (3 + 6 * c + 4) = nI md) (q2 : S (3 + 6 * c + 2) = nI sp) (q3 : S (3 + 6 * c + 1) = nI bu) (q4 : zEf S c = nI ef) (q5 : S (3 + 6 * c + 5) = nI pz) : ∃ hm, f_X11_write N (nI c) g = some (nI (zWr2 (zRe S c n) (zWr1 pz (zWr0 w md sp bu ef))).length, hm) ∧ zF zAw g hm ∧ zOr (zWr2 (zRe S c n) (zWr1 pz (zWr0 w md sp bu ef))) hm ∧ xm_i hm 302 4 = 0 := by
  have k1 := zKf ⟨md, by omega⟩
  have k2 := zKe.2.2.2
  have d1 := (zDg_b v2).1
  have d2 := (zDg_b v3).1
  have d3 := (zDg_b v4).1
  have w2 := hw.2.1
  dsimp only at k1
  have hl0 := (zWr0_l hw v1 v2 v3 v4).1
  have F0 : zF zAw g (xm_si (xm_si g 302 4 0) 302 30 0) := (zF.si (Or.inr ⟨rfl, rfl⟩)).st (Or.inl (Or.inr ⟨rfl, rfl⟩))
  have o0 : zOr [] (xm_si (xm_si g 302 4 0) 302 30 0) := ⟨xi_eq, fun i x hx => by simp at hx⟩
  have z4 : xm_i (xm_si (xm_si g 302 4 0) 302 30 0) 302 4 = 0 := by rw [xi_nk (by decide), xi_eq]
  generalize hk0 : xm_si (xm_si g 302 4 0) 302 30 0 = k0 at F0 o0 z4
  have kon : ∀ k, zF zAo k0 k → zKon L xs k ∧ 318 ≤ xm_n k ∧ xm_i k 303 = S := fun k F => by
    have F2 : zF zAw g k := F0.tr (F.mono (fun a i z => Or.inl z))
    exact ⟨hK.fx F2.x hn (fun a i z1 z => by unfold zAw zAo at z; omega), by rw [F2.n]; exact hn, (F2.row (fun i z => by unfold zAw zAo at z; omega)).trans eS⟩
  obtain ⟨g1, e1', F1, s1⟩ := zs_putName (N := N) hN hw (by simp) o0
  rw [List.nil_append] at s1
  obtain ⟨g2, e2, F2, s2⟩ := zs_put (c := 32) (by omega) s1
  have T2 : zF zAo k0 g2 := F1.tr F2
  have K2 := kon g2 T2
  obtain ⟨g3, e3, F3, s3⟩ := zs_putText (N := N) hN (zCst (q := 39 + md) K2.1 K2.2.1 (by omega)) (by omega) (by omega) (fun x hx => by have := (zKw_l (39 + md)).2 x hx; omega) (by rw [k1.2.1]; simp only [List.length_append, List.length_cons, List.length_nil]; omega) s2
  have T3 : zF zAo k0 g3 := T2.tr F3
  have K3 := kon g3 T3
  obtain ⟨g4, e4, F4, s4⟩ := zs_putText (N := N) (a := 89) (b := 90) (w := zKw 43) hN (zCst (q := 43) K3.1 K3.2.1 (by omega)) (by omega) (by omega) (fun x hx => by have := (zKw_l 43).2 x hx; omega) (by rw [k1.2.1, k2.1]; simp only [List.length_append, List.length_cons, List.length_nil]; omega) s3
  have T4 : zF zAo k0 g4 := T3.tr F4
  have K4 := kon g4 T4
  rw [k1.2.1, k2.1] at s4
  obtain ⟨g5, e5, F5, s5⟩ := zs_putNumber (N := N) (q := sp) hN v2 (by simp only [List.length_append, List.length_cons, List.length_nil]; omega) s4
  obtain ⟨g6, e6, F6, s6⟩ := zs_put (c := 47) (by simp only [List.length_append, List.length_cons, List.length_nil]; omega) s5
  have T6 : zF zAo k0 g6 := T4.tr (F5.tr F6)
  have K6 := kon g6 T6
  obtain ⟨g7, e7, F7, s7⟩ := zs_putNumber (N := N) (q := bu) hN v3 (by simp only [List.length_append, List.length_cons, List.length_nil]; omega) s6
  have T7 : zF zAo k0 g7 := T6.tr F7
  have K7 := kon g7 T7
  obtain ⟨g8, e8, F8, s8⟩ := zs_putText (N := N) (a := 91) (b := 92) (w := zKw 44) hN (zCst (q := 44) K7.1 K7.2.1 (by omega)) (by omega) (by omega) (fun x hx => by have := (zKw_l 44).2 x hx; omega) (by rw [k2.2.1]; simp only [List.length_append, List.length_cons, List.length_nil]; omega) s7
  have T8 : zF zAo k0 g8 := T7.tr F8
  have K8 := kon g8 T8
  rw [k2.2.1] at s8
  have m8 : f_X11_effective (nI c) g8 = some (nI ef, g8) := by rw [zs_effective (by omega), K8.2.2, q4]
  obtain ⟨g9, e9, F9, s9⟩ := zs_putNumber (N := N) (q := ef) hN v4 (by simp only [List.length_append, List.length_cons, List.length_nil]; omega) s8
  have T9 : zF zAo k0 g9 := T8.tr F9
  have K9 := kon g9 T9
  change zOr (zWr0 w md sp bu ef) g9 at s9
  have hL0 : xm_l k0 311 c = lN (zPk w) := (F0.l 311 c).trans hL
  unfold f_X11_write
  rw [zq_isC1 (n := nc) e14 (by omega) hc, xb_some, zs_good1, xb_some, if_neg (by decide)]
  simp only [xl]
  rw [hk0, if_pos (zb_in (by omega) (by decide)), nI_clamp (by omega), hL0, e1', xb_some, show (32 : Int32) = nI 32 from rfl, e2, xb_some, zs_of4 (by omega), xb_some, K2.2.2, q1, zs_modeWord v1, xb_some, e3, xb_some, e4, xb_some, zs_of2 (by omega), xb_some, K4.2.2, q2, e5, xb_some, show (47 : Int32) = nI 47 from rfl, e6, xb_some, zs_of1 (by omega), xb_some, K6.2.2, q3, e7, xb_some, e8, xb_some, m8, xb_some, e9, xb_some, zs_of5 (by omega), xb_some, K9.2.2, q5]
  by_cases hz : pz = 0
  · obtain ⟨k', t1, t2, t3⟩ := zs_wtail (c := c) (n := n) hN K9.1 K9.2.1 hn4 K9.2.2 e1 hU (by omega) s9
    have e : zWr1 pz (zWr0 w md sp bu ef) = zWr0 w md sp bu ef := if_pos hz
    rw [if_neg (by rw [hz]; decide), e]
    have T : zF zAo k0 k' := T9.tr t2
    exact ⟨k', t1, F0.tr (T.mono (fun a i z => Or.inl z)), t3, by rw [T.i (fun z => by unfold zAo at z; omega)]; exact z4⟩
  · obtain ⟨ga, ea, Fa, sa⟩ := zs_putText (N := N) (a := 93) (b := 94) (w := zKw 45) hN (zCst (q := 45) K9.1 K9.2.1 (by omega)) (by omega) (by omega) (fun x hx => by have := (zKw_l 45).2 x hx; omega) (by rw [k2.2.2.1]; omega) s9
    rw [k2.2.2.1] at sa
    have Ta : zF zAo k0 ga := T9.tr Fa
    have Ka := kon ga Ta
    obtain ⟨k', t1, t2, t3⟩ := zs_wtail (c := c) (n := n) hN Ka.1 Ka.2.1 hn4 Ka.2.2 e1 hU (by rw [List.length_append]; omega) sa
    have e : zWr1 pz (zWr0 w md sp bu ef) = zWr0 w md sp bu ef ++ zKw 29 := if_neg hz
    rw [if_pos (by rw [show pz = 1 by omega]; rfl), e, ea, xb_some]
    have T : zF zAo k0 k' := Ta.tr t2
    exact ⟨k', t1, F0.tr (T.mono (fun a i z => Or.inl z)), t3, by rw [T.i (fun z => by unfold zAo at z; omega)]; exact z4⟩
set_option maxRecDepth 100000 in
theorem xRD_300 : xRD 300 0 = none := by decide +kernel
theorem zWr_post {y : Int64} (hI : zInv ρ δ nc nt nf na n nv ne la nb bo no cap L xs h) (hS : zSb h bo 14 0 l g) (hl : l.length ≤ 120) (hlc : ∀ x ∈ l, 32 ≤ x ∧ x ≤ 126) (hF : zF zAw (xm_sl g 316 0 y) hm) (hO : zOr l hm) : zPo L xs h hm := by
  have hn := hI.n
  obtain ⟨i1, i2, i3, i4, i5, i6, i7, i8⟩ := hI
  have hb0 := i8.2.2.2.2.1
  have hρ : ρ = 164 ∨ ρ = 183 := i4.1
  have hnc := i4.2.1.1
  have hS' := hS
  obtain ⟨bo', cap', s1, s2, s3, s4, s5, s6, s7, s8, s9, s10, s11, s12, s13, s14, s15⟩ := hS
  have hX : zX (fun a k => zA3 bo a k ∨ zAw a k) h (xm_sr hm 300 0 (some bo)) := by
    refine ⟨Nat.le_trans s13.1 (Nat.le_of_eq hF.n.symm), fun a ha => ?_⟩
    obtain ⟨d1, d2, d3, d4⟩ := s13.2 a ha
    refine ⟨(hF.k a).trans d1, fun k => ?_, fun k hk => ?_, fun k hk => ?_⟩
    · refine Eq.trans ?_ (d2 k)
      show (if a = 300 ∧ k = 0 then some bo else xm_r hm a k) = (if a = 300 ∧ k = 0 then some bo else xm_r g a k)
      rw [hF.r]
      rfl
    · refine Eq.trans ?_ (d3 k (fun z => hk (Or.inl z)))
      show xm_i hm a k = xm_i g a k
      rw [hF.i (fun z => hk (Or.inr z))]
      rfl
    · refine Eq.trans ?_ (d4 k hk)
      show xm_l hm a k = xm_l g a k
      rw [hF.l]
      exact if_neg (fun z => hk (Or.inl z.1))
  have hbn : bo' < xm_n hm := by rw [hF.n]; exact s2
  have rr : ∀ a k, ¬ (a = 300 ∧ k = 0) → xm_r hm a k = xm_r (xm_sr hm 300 0 (some bo)) a k := fun a k z => (if_neg z).symm
  have hib : ∀ i, xm_i hm bo' i = xm_i g bo' i := fun i => by
    rw [hF.i (fun z => by unfold zAw zAo at z; omega)]
    rfl
  have hi3 : ∀ i, xm_i hm 300 i = xm_i g 300 i := fun i => by
    rw [hF.i (fun z => by unfold zAw zAo at z; omega)]
    rfl
  refine ⟨⟨ρ, δ, nc, nt, nf, na, n, nv, ne, la, nb, bo', l.length, cap', ?_, i2, ?_, ?_, ?_, ?_, ?_, ?_⟩, ?_, ?_⟩
  · obtain ⟨⟨a1, a2, a3⟩, b1, b2, b3, b4⟩ := i1.fx hX
    refine ⟨⟨a1, a2, fun a k b hb => ?_⟩, b1, b2, (rr _ _ (by omega)).trans b3, (rr _ _ (by omega)).trans b4⟩
    refine (rr _ _ (fun z => ?_)).trans (a3 a k b hb)
    rw [z.1, z.2, xRD_300] at hb
    cases hb
  · intro a ha
    obtain ⟨e1, e2⟩ := i3.fx hX hn (fun a k ha z => by unfold zA3 zAw zAo at z; omega) a ha
    exact ⟨e1, fun i => ⟨(e2 i).1, (rr _ _ (by omega)).trans (e2 i).2⟩⟩
  · have hq : zMk ρ nc nt nf na n nv ne la (xm_sr hm 300 0 (some bo)) := i4.fA hX hn (fun a k z z2 => by unfold zA3 zAw zAo at z2; unfold zMP at z; omega)
    exact hq
  · have hq : zBuf nb (xm_sr hm 300 0 (some bo)) := i5.fA hX hn (fun a k z z2 => by unfold zA3 zAw zAo at z2; omega)
    exact hq
  · have hq : zErr (xm_sr hm 300 0 (some bo)) := i6.fA hX hn (fun a k z z2 => by unfold zA3 zAw zAo at z2; omega)
    exact hq
  · intro c hc
    obtain ⟨a, b, w, b1, b2, b3, b4, b5, b6, b7⟩ := i7 c hc
    have hab : a ≠ bo := fun z => by
      have h1 := b5.2.2.1
      have h2 := i8.2.2.2.2.2.2.1
      rw [z, h2] at h1
      cases h1
    obtain ⟨t1, t2, t3, t4, t5, t6, t7⟩ := b5.fx hX (fun k z => by unfold zA3 zAw zAo at z; omega) (fun k z => by unfold zA3 zAw zAo at z; omega)
    refine ⟨a, b, w, (rr _ _ (by omega)).trans ((hX.r (by omega)).trans b1), b2, b3, ?_, ⟨t1, t2, t3, (rr _ _ (by omega)).trans t4, t5, t6, t7⟩, b6, (hX.l (by omega) (by omega)).trans b7⟩
    have := b5.2.1
    omega
  · refine ⟨hl, s8, s10, hbn, s3, (hF.r 300 0).trans s4, (hF.k bo').trans s5, (hi3 1).trans s6, (hi3 3).trans s7, hO.1, fun i hi => ?_, fun i hi => by rw [hib]; exact s12 i hi⟩
    have hx := List.getElem?_eq_getElem hi
    rw [hib, s11 i _ hx, hO.2 i _ hx]
    have := hlc _ (List.getElem_mem hi)
    exact ⟨rfl, zB.nI (by omega) (by omega)⟩
  · rw [hF.n]
    show xm_n g ≤ _
    omega
  · rw [hF.sz]
    show xm_sz g ≤ _
    omega
theorem zo_write (hN : 1000 ≤ N) (hI : zInv ρ δ nc nt nf na n nv ne la nb bo no cap L xs h) : zOp (f_L_write N ρ x h) (f_X11_write N x) (zPo L xs h) := by
  have hn := hI.n
  have hnc := hI.wt.1
  rcases zix x (n := nc) (by omega) with hx | ⟨c, hc, rfl⟩
  · refine zOp.mono (P := zRO h) ?_ (fun g hg => zRO.po hI hg)
    refine zop_bad (k := 1) (b := 0) zks14 (by decide) ?_ ?_
    · unfold f_L_write f_X10_write
      rw [zq_C0 hI.c7 hx, xe_inr, xe_inr]
      rfl
    · unfold f_X11_write
      rw [zq_isC0 (n := nc) (by rw [xi_new (by omega)]; exact hI.T14) (by omega) hx, xb_some, zs_good0, xb_some]
      rfl
  · obtain ⟨u1, u2, ⟨sp, bu, u3, u3b, u3c, u3d⟩, u4, u5, u6⟩ := hI.ws.2.2.2.2.2.1 c hc
    obtain ⟨bi, bi1, bi2, bi3⟩ := u1
    obtain ⟨ml, ml1, ml2, ml3⟩ := u4
    obtain ⟨md, md1, md2, md3⟩ := u5
    obtain ⟨pz, pz1, pz2, pz3⟩ := u6
    have hpr : bi * ml ≤ 999 * 100 := Nat.mul_le_mul bi2 ml2
    have q4 : zEf (xm_i h 303) c = nI ((bi * ml + 99) / 100) := by
      unfold zEf
      rw [bi3, ml3, pk_mul, show (99 : Int32) = nI 99 from rfl, nI_add, show (100 : Int32) = nI 100 from rfl, pk_div (by omega) (by omega) (by omega)]
    obtain ⟨a, b, w, b1, b2, b3, b4, b5, b6, b7⟩ := hI.2.2.2.2.2.2.1 c hc
    have hb0 := hI.2.2.2.2.2.2.2.2.2.2.2.1
    have v4 : (bi * ml + 99) / 100 ≤ 9999 := by omega
    generalize (bi * ml + 99) / 100 = ef at q4 v4
    obtain ⟨g, c1, c2⟩ := zc_write (pz := pz) hN hI hc b1 ⟨b2, b3⟩ b4 b5 b6 md2 (show sp ≤ 9999 by omega) u3d v4 pz2 md3 u3 u3b q4 pz3
    have hl := zWr2_l (re := zRe (xm_i h 303) c n) (zpc_le _) (zWr1_l (pz := pz) (zWr0_l b6 md2 (show sp ≤ 9999 by omega) u3d v4))
    have hng : 318 ≤ xm_n g := by
      obtain ⟨bo', cap', s1, s2, s3, s4, s5, s6, s7, s8, s9, s10, s11, s12, s13, s14, s15⟩ := c2
      exact Nat.le_trans hn s13.1
    have hlg : xm_l g 311 c = xm_l h 311 c := by
      obtain ⟨bo', cap', s1, s2, s3, s4, s5, s6, s7, s8, s9, s10, s11, s12, s13, s14, s15⟩ := c2
      exact s13.l (by omega) (by omega)
    have hkg : zKon L xs g := c2.kon hn hb0 hI.2.2.1
    have hlm : ∀ y, xm_l (xm_sl g 316 0 y) 311 c = lN (zPk w) := fun y => by
      have e : xm_l (xm_sl g 316 0 y) 311 c = xm_l g 311 c := (zX.out (A := fun _ _ => False) (h := g) y).l (by omega) (by omega)
      rw [e, hlg, b7]
    obtain ⟨hm, r1, r2, r3, r4⟩ := zs_write (pz := pz) (n := n) (g := xm_sl g 316 0 (Int32.toInt64 (nI (zWr2 (zRe (xm_i h 303) c n) (zWr1 pz (zWr0 w md sp bu ef))).length))) (S := xm_i h 303) hN hnc hc hkg hng hI.ws.1 (funext fun k => c2.i (by omega) (by omega) (by omega)) ((c2.i (by omega) (by omega) (by omega)).trans hI.T14) hI.ws.2.2.2.1 hI.uB (hlm _) b6 md2 (show sp ≤ 9999 by omega) u3d v4 pz2 md3 u3 u3b q4 pz3
    refine ⟨0, _, _, hm, ?_, r1, r4, fun _ => ?_, zWr_post hI c2 (by omega) hl.2 r2 r3⟩
    · unfold f_L_write
      rw [c1, xe_inl]
      rfl
    · rw [r2.l]
      exact xl_eq
end Wu
