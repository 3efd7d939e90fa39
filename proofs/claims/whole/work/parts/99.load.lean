/-! load -/
section Ldz
variable {N ρ δ nc nt nf na n nv ne la nb bo no cap L j : Nat} {xs : zV} {h G hA : xm_H} {x : Int32} {b : Nat → Nat}
theorem zld_G {A R M : Nat → Nat → Prop} (hn : 318 ≤ xm_n hA) (m : zGf A R M hA G) (hA1 : ∀ a k, a < 160 → ¬ A a k) (hR : ∀ a k, a < 160 → ¬ R a k) (hA2 : ∀ k, ¬ A 306 k) (hK : zKon L xs hA) (k3 : xm_k hA 309 = (104, 6)) (k4 : xm_k hA 310 = (104, 8)) (hB : zBz b hA) : 318 ≤ xm_n G ∧ zKon L xs G ∧ xm_k G 309 = (104, 6) ∧ xm_k G 310 = (104, 8) ∧ zBz b G := ⟨Nat.le_trans hn m.1, m.kon hn hA1 hR hK, (m.k (by omega)).trans k3, (m.k (by omega)).trans k4, fun i hi => by rw [m.i (by omega) (hA2 i)]; exact hB i hi⟩
theorem zld_r {K : Int32 → xm_H → Option (Int32 × xm_H)} (e6 : xm_i G 302 6 = nI nb) (hj : j ≤ nb) (hb : nb ≤ 600) (hK : K = fun (e53 : Int32) (h54 : xm_H) => (xl (xm_si h54 302 7 (xm_i h54 302 14)) fun h55 => (xl (xm_si h55 302 8 (xm_i h55 302 15)) fun h57 => (if e53 = 0 then (some ((-3 : Int32), h57)) else (xb (f_X11_takeTerms N h57) fun v60 h61 => (some (xm_i h61 308 14, h61))))))) : f_X11_load N (nI j) G = zRl N j G K := by
  subst hK
  unfold f_X11_load
  rw [e6, show (0 : Int64) = (0 : Int32).toInt64 from rfl, zs_btw, xb_some, zbt_1 (nI_pos (by omega)) (nI_nlt hj (by omega)), if_neg (by decide)]
  simp only [xl]
  rw [xi_eq, if_neg (by decide)]
  rfl
theorem zo_load (hN : 20000 ≤ N) (hI : zInv ρ δ nc nt nf na n nv ne la nb bo no cap L xs h) : zOp (f_L_load N ρ δ x h) (f_X11_load N x) (zPo L xs h) := by
  have hn := hI.n
  obtain ⟨B1, B2, B3, B4⟩ := hI.2.2.2.2.1
  have hδ : δ = 164 ∨ δ = 183 := hI.1.2.2.1
  have hρ : ρ = 164 ∨ ρ = 183 := hI.1.2.1
  by_cases hx : x < 0 ∨ nI nb < x
  · refine zOp.mono (P := zRO h) ?_ (fun g hg => zRO.po hI hg)
    refine zop_bad (k := 1) (b := 0) zks15 (by decide) ?_ ?_
    · unfold f_L_load f_X10_load
      rw [B2, zq_R0 hx, xe_inr, xe_inr]
      rfl
    · unfold f_X11_load
      rw [xi_new (by omega), B3, show (0 : Int64) = (0 : Int32).toInt64 from rfl, zs_btw, xb_some, zbt_0 hx, if_pos rfl]
      rfl
  · have hx0 : ¬ x < 0 := fun z => hx (Or.inl z)
    have hx1 : ¬ nI nb < x := fun z => hx (Or.inr z)
    obtain ⟨j, hj1, rfl⟩ := nI_of hx0
    have hj : j ≤ nb := by
      rcases Nat.lt_or_ge nb j with z | z
      · exact absurd (nI_lt z hj1) hx1
      · exact z
    -- both read from here
    have nA : 318 ≤ xm_n (xm_si h 162 1 0) := hn
    have FA : zF (fun a k => a = 162 ∧ k = 1) h (xm_si h 162 1 0) := zF.si ⟨rfl, rfl⟩
    have KA : zKon L xs (xm_si h 162 1 0) := hI.2.2.1.fx FA.x hn (fun a k z1 z => by omega)
    have k3 : xm_k (xm_si h 162 1 0) 309 = (104, 6) := xs_k hI.1 rfl rfl
    have k4 : xm_k (xm_si h 162 1 0) 310 = (104, 8) := xs_k hI.1 rfl rfl
    have hbt : ∀ i, i < 600 → xm_i h 306 i = nI (Int32.toNatClampNeg (xm_i h 306 i)) ∧ Int32.toNatClampNeg (xm_i h 306 i) ≤ 255 := fun i hi => by
      obtain ⟨q, q1, q2, q3⟩ := (B4 i hi).2
      rw [q3, nI_clamp (by omega)]
      exact ⟨rfl, q2⟩
    have bz : zBz (fun i => Int32.toNatClampNeg (xm_i h 306 i)) (xm_si h 162 1 0) := fun i hi => by rw [xi_ne (by decide)]; exact hbt i hi
    have bc : zBy (fun i => Int32.toNatClampNeg (xm_i h 306 i)) (xm_si h 162 1 0) := fun i hi => by rw [xi_ne (by decide), (B4 i hi).1]; exact hbt i hi
    have a6 : xm_i (xm_si h 162 1 0) 302 6 = nI nb := by rw [xi_ne (by decide)]; exact B3
    generalize (fun i => Int32.toNatClampNeg (xm_i h 306 i)) = b at bz bc
    have ld := fun (G : xm_H) (hG : 318 ≤ xm_n G ∧ zKon L xs G ∧ xm_k G 309 = (104, 6) ∧ xm_k G 310 = (104, 8) ∧ zBz b G) => zL_ld (N := N) (x := j) (δ := δ) (G := G) (by omega) (by omega) hδ nA hG.1 KA hG.2.1 hG.2.2.1 hG.2.2.2.1 bc hG.2.2.2.2
    rcases ld _ ⟨nA, KA, k3, k4, bz⟩ with ⟨hc1, hr1, p1, _, p3⟩ | ⟨hc1, hr1, nc1, nt1, nf1, na1, W1, V1, p1, _, _, p4⟩
    · have X1 := p3.2.1
      have mG : zGf (zGA δ) (zGR δ) (fun a k => a = 316 ∨ (a = 302 ∧ k = 16)) (xm_si h 162 1 0) (xm_sl hc1 316 0 (Int32.toInt64 (-3))) := X1.mf.tr ((((zX.out (A := fun _ _ => False) (h := hc1) (Int32.toInt64 (-3))).xr (R := fun _ _ => False)).mf).mono (fun a k z => z.elim) (fun a k z => z.elim) (fun a k z => z))
      have g6 : xm_i (xm_sl hc1 316 0 (Int32.toInt64 (-3))) 302 6 = nI nb := (mG.i (by omega) (fun z => by unfold zGA at z; omega)).trans a6
      rcases ld _ (zld_G nA mG (fun a k z1 z => by unfold zGA at z; omega) (fun a k z1 z => by unfold zGR at z; omega) (fun k z => by unfold zGA at z; omega) KA k3 k4 bz) with ⟨hc2, hr2, q1, q2, q3⟩ | ⟨hc2, hr2, nc2, nt2, nf2, na2, W2, V2, q1, q2, q3, q4⟩
      · have hcc : hc2 = hc1 := by
          rw [p1] at q1
          cases q1
          rfl
        subst hcc
        refine ⟨0, xm_sl hc2 316 0 (Int32.toInt64 (-3)), -3, xm_si (xm_si hr2 302 7 (xm_i hr2 302 14)) 302 8 (xm_i hr2 302 15), ?_, ?_, ?_, fun _ => ?_, zld_bad hI q3⟩
        · unfold f_L_load f_X10_load
          rw [B2, zq_R1 hx0 hx1, xe_inl]
          simp only [xl]
          rw [p1, xb_some, if_pos rfl, xe_inl]
        · rw [zld_r g6 hj B1 rfl, q2]
          simp only [xl]
          rw [if_pos trivial, xi_nk (show (15 : Nat) ≠ 7 by decide)]
        · rw [xi_nk (by decide), xi_nk (by decide), q3.2.2.1.i (fun z => by unfold zHA at z; omega)]
          unfold zK0
          rw [xi_nk (by decide), xi_nk (by decide), xi_eq]
        · show xm_l hr2 316 0 = _
          rw [q3.2.2.1.l (fun z => by unfold zHM at z; omega)]
          exact xl_eq
      · rw [p1] at q1
        cases q1
    · have D1 := p4.2.2.2.1
      have n1 := p4.ncl
      obtain ⟨hb, b1, b2, _⟩ := zc_open (N := N) (nc := nc1) (nt := nt1) (h := xm_sr hc1 182 0 (some δ)) (by omega) hδ D1.1.2.1 D1.1.1 (D1.2.1.2.2.2.1.trans D1.1.2.2.2.2.2.2.1) (D1.2.1.2.2.2.2.1.trans D1.1.2.2.2.2.2.1)
      have hv : xm_i (xm_si (xm_sr hb 161 3 (some ρ)) 234 2 0) δ 7 = xm_i hc1 δ 7 := by
        rw [xi_ne (by omega)]
        show xm_i hb δ 7 = _
        rw [b2.i (by omega)]
        rfl
      have X1 : zXr (fun _ _ => False) (fun a k => a = 182 ∧ k = 0) hc1 (xm_sr hc1 182 0 (some δ)) := zXr.rf.sr ⟨rfl, rfl⟩
      have X2 : zXr (fun _ _ => False) (fun a k => a = 161 ∧ k = 3) hb (xm_sr hb 161 3 (some ρ)) := zXr.rf.sr ⟨rfl, rfl⟩
      have F3 : zF (fun a k => a = 234 ∧ k = 2) (xm_sr hb 161 3 (some ρ)) (xm_si (xm_sr hb 161 3 (some ρ)) 234 2 0) := zF.si ⟨rfl, rfl⟩
      have mG : ∀ y, zGf (fun a k => zGA δ a k ∨ (201 ≤ a ∧ a ≤ 208) ∨ a = 234) (zRO' δ) (fun a k => a = 316 ∨ (a = 302 ∧ k = 16)) (xm_si h 162 1 0) (xm_sl (xm_si (xm_sr hb 161 3 (some ρ)) 234 2 0) 316 0 y) := fun y => (p4.2.1.mf.mono (fun a k z => Or.inl z) (fun a k z => Or.inl z) (fun a k z => z)).tr ((X1.mf.mono (fun a k z => z.elim) (fun a k z => Or.inr (Or.inl z)) (fun a k z => z)).tr (((b2.fm (M := fun _ _ => False)).mf.mono (R := fun _ _ => False) (fun a k z => Or.inr (Or.inl z)) (fun a k z => z.elim) (fun a k z => z.elim)).tr ((X2.mf.mono (fun a k z => z.elim) (fun a k z => Or.inr (Or.inr z)) (fun a k z => z)).tr (((F3.fm (M := fun _ _ => False)).mf.mono (R := fun _ _ => False) (fun a k z => Or.inr (Or.inr z.1)) (fun a k z => z.elim) (fun a k z => z.elim)).tr ((((zX.out (A := fun _ _ => False) y).xr (R := fun _ _ => False)).mf).mono (fun a k z => z.elim) (fun a k z => z.elim) (fun a k z => z))))))
      have g6 : ∀ y, xm_i (xm_sl (xm_si (xm_sr hb 161 3 (some ρ)) 234 2 0) 316 0 y) 302 6 = nI nb := fun y => ((mG y).i (by omega) (fun z => by unfold zGA at z; omega)).trans a6
      rcases ld _ (zld_G nA (mG (Int32.toInt64 (xm_i hc1 δ 7))) (fun a k z1 z => by unfold zGA at z; omega) (fun a k z1 z => by unfold zRO' zGR at z; omega) (fun k z => by unfold zGA at z; omega) KA k3 k4 bz) with ⟨hc2, hr2, q1, q2, q3⟩ | ⟨hc2, hr2, nc2, nt2, nf2, na2, W2, V2, q1, q2, q3, q4⟩
      · rw [p1] at q1
        cases q1
      · have hcc : hc2 = hc1 := by
          rw [p1] at q1
          cases q1
          rfl
        subst hcc
        have D2 := q4.2.2.2.1
        obtain ⟨hm, t1, t2, t3, t4, t5⟩ := zld_ok (by omega) hI b1 q3 q4
        refine ⟨0, xm_sl (xm_si (xm_sr hb 161 3 (some ρ)) 234 2 0) 316 0 (Int32.toInt64 (xm_i hc2 δ 7)), nI nc2, hm, ?_, ?_, t4, fun _ => ?_, t3⟩
        · unfold f_L_load f_X10_load f_X2_open f_X3_forget
          rw [B2, zq_R1 hx0 hx1, xe_inl]
          simp only [xl]
          rw [p1, xb_some, if_neg (by decide), b1, xb_some, xb_some, if_pos hρ, xb_some, hv, xe_inl]
        · rw [zld_r (g6 _) hj B1 rfl, q2]
          simp only [xl]
          rw [if_neg (by decide), xi_nk (show (15 : Nat) ≠ 7 by decide), t1, xb_some, t2]
        · rw [t5, D2.2.1.2.2.2.2.1.trans D2.1.2.2.2.2.2.1]
end Ldz
