/-! frames that leave the market be; feed -/
/-- places of the market -/
def zMP (n nv a k : Nat) : Prop := a = 308 ∨ a = 303 ∨ a = 305 ∨ (a = 302 ∧ k = 3) ∨ (234 ≤ a ∧ a ≤ 299) ∨ (164 ≤ a ∧ a ≤ 181) ∨ (183 ≤ a ∧ a ≤ 208) ∨ (210 ≤ a ∧ a ≤ 214 ∧ k < n) ∨ (229 ≤ a ∧ a ≤ 232 ∧ k < nv) ∨ (a = 233 ∧ k < 8 * nv)
section Fd
variable {N ρ δ nc nt nf na n nv ne la nb bo no cap L : Nat} {xs : zV} {S T R R' : zV} {A : Nat → Nat → Prop} {h g h1 h2 : xm_H} {u v x y z w : Int32}
theorem zMk.fA (hX : zX A h g) (hn : 318 ≤ xm_n h) (hA : ∀ a k, zMP n nv a k → ¬ A a k) (hM : zMk ρ nc nt nf na n nv ne la h) : zMk ρ nc nt nf na n nv ne la g := by
  obtain ⟨a1, a2, a3, a4, a5, a6, a7, a8, a9, a10⟩ := hM
  have hr : ρ = 164 ∨ ρ = 183 := a1
  have hnc := a2.1
  have no := fun (a k : Nat) (z : zMP n nv a k) => hA a k z
  have eT : xm_i g 308 = xm_i h 308 := hX.row (by omega) (fun k => no _ _ (by unfold zMP; omega))
  have eH : xm_i g 305 = xm_i h 305 := hX.row (by omega) (fun k => no _ _ (by unfold zMP; omega))
  have eS : xm_i g 303 = xm_i h 303 := hX.row (by omega) (fun k => no _ _ (by unfold zMP; omega))
  refine ⟨a1, by rw [eT]; exact a2, by rw [eT]; exact zRT.fx a1 hX hn (fun a k z1 z2 => no _ _ (by unfold zMP; omega)) a2.1 a3, ?_, a5, a6, (hX.i (by omega) (no _ _ (by unfold zMP; omega))).trans a7, (hX.i (by omega) (no _ _ (by unfold zMP; omega))).trans a8, (hX.i (by omega) (no _ _ (by unfold zMP; omega))).trans a9, fun j hj => ?_⟩
  · rw [eT, eS]
    exact zBlk.fx hX hn (by omega) (fun a k z1 z2 => no _ _ (by unfold zMP; omega)) (fun a k z1 z2 z3 => no _ _ (by unfold zMP; omega)) (fun a k z1 z2 z3 => no _ _ (by unfold zMP; omega)) (fun k c z1 z2 => no _ _ (by unfold zMP; omega)) a4
  · obtain ⟨nj, vj, Sj, b1, b2, b3, b4, b6, b5⟩ := a10 j hj
    refine ⟨nj, vj, Sj, b1, b2, ?_, ?_, by rw [eH]; exact b6, ?_⟩
    · rw [eH]
      exact b3
    · rw [eS]
      exact b4
    · rw [eT]
      exact zBlk.fx hX hn (by omega) (fun a k z1 z2 => no _ _ (by unfold zMP; omega)) (fun a k z1 z2 z3 => no _ _ (by unfold zMP; omega)) (fun a k z1 z2 z3 => no _ _ (by unfold zMP; omega)) (fun k c z1 z2 => no _ _ (by unfold zMP; omega)) b5
theorem zErr.fA (hX : zX A h g) (hn : 318 ≤ xm_n h) (hA : ∀ a k, (a = 161 ∧ (k = 4 ∨ k = 5)) ∨ (a = 302 ∧ (k = 7 ∨ k = 8)) → ¬ A a k) (hR : zErr h) : zErr g := by
  unfold zErr
  rw [hX.i (by omega) (hA _ _ (by omega)), hX.i (a := 302) (k := 7) (by omega) (hA _ _ (by omega)), hX.i (a := 161) (k := 5) (by omega) (hA _ _ (by omega)), hX.i (a := 302) (k := 8) (by omega) (hA _ _ (by omega))]
  exact hR
theorem zBuf.fA (hX : zX A h g) (hn : 318 ≤ xm_n h) (hA : ∀ a k, a = 163 ∨ a = 306 ∨ (a = 162 ∧ k = 1) ∨ (a = 302 ∧ k = 6) → ¬ A a k) (hR : zBuf nb h) : zBuf nb g := by
  obtain ⟨a1, a2, a3, a4⟩ := hR
  refine ⟨a1, (hX.i (by omega) (hA _ _ (by omega))).trans a2, (hX.i (by omega) (hA _ _ (by omega))).trans a3, fun i hi => ?_⟩
  rw [hX.i (by omega) (hA _ _ (by omega)), hX.i (a := 306) (by omega) (hA _ _ (by omega))]
  exact a4 i hi
theorem zOut.fA (hX : zX A h g) (hn : 318 ≤ xm_n h) (hA : ∀ a k, a = 300 ∨ a = bo ∨ a = 315 ∨ (a = 302 ∧ k = 30) → ¬ A a k) (hR : zOut bo no cap h) : zOut bo no cap g := by
  obtain ⟨a1, a2, a3, a4, a5, a6, a7, a8, a9, a10, a11, a12⟩ := hR
  refine ⟨a1, a2, a3, Nat.lt_of_lt_of_le a4 hX.1, a5, (hX.r (by omega)).trans a6, (hX.k a4).trans a7, (hX.i (by omega) (hA _ _ (by omega))).trans a8, (hX.i (by omega) (hA _ _ (by omega))).trans a9, (hX.i (by omega) (hA _ _ (by omega))).trans a10, fun i hi => ?_, fun i hi => by rw [hX.i a4 (hA _ _ (by omega))]; exact a12 i hi⟩
  rw [hX.i a4 (hA _ _ (by omega)), hX.i (a := 315) (by omega) (hA _ _ (by omega))]
  exact a11 i hi
theorem zNm.fA (hX : zX A h g) (hn : 318 ≤ xm_n h) (hρ : xIsR ρ) (hnc : nc ≤ 8) (hA : ∀ a k, 318 ≤ a → ¬ A a k) (hR : zNm ρ nc bo h) : zNm ρ nc bo g := by
  intro c hc
  have hr : ρ = 164 ∨ ρ = 183 := hρ
  obtain ⟨a, b, w, b1, b2, b3, b4, b5, b6, b7⟩ := hR c hc
  exact ⟨a, b, w, (hX.r (by omega)).trans b1, b2, b3, b4, b5.fx hX (fun k => hA a k b2) (fun k => hA b k b3), b6, (hX.l (by omega) (by omega)).trans b7⟩
/-- one byte of a word -/
def zby (x s : Int32) : Int32 := ((Int32.toUInt32 x) >>> ((Int32.toUInt32 s) &&& Int32.toUInt32 31)).toInt32 &&& (255 : Int32)
theorem zand255 (y : Int32) : zB 0 255 (y &&& 255) := by
  refine ⟨y.toBitVec.toNat % 256, by omega, by omega, Int32.toBitVec_inj.mp ?_⟩
  show y.toBitVec &&& (255#32) = BitVec.ofNat 32 (y.toBitVec.toNat % 256)
  apply BitVec.eq_of_toNat_eq
  have h1 : (y.toBitVec &&& (255#32)).toNat = y.toBitVec.toNat &&& 255 := BitVec.toNat_and _ _
  have h2 : (BitVec.ofNat 32 (y.toBitVec.toNat % 256)).toNat = y.toBitVec.toNat % 256 := by
    rw [BitVec.toNat_ofNat]
    exact Nat.mod_eq_of_lt (by omega)
  rw [h1, h2]
  exact Nat.and_two_pow_sub_one_eq_mod y.toBitVec.toNat 8
set_option maxRecDepth 100000 in
theorem znar : ∀ k : Fin 256, vp_nar .char (((Int32.toUInt32 (nI k.1)) % 65536).toInt32) = nI k.1 := by decide +kernel
theorem znar_by (x s : Int32) : vp_nar .char (((Int32.toUInt32 (zby x s)) % 65536).toInt32) = zby x s := by
  obtain ⟨k, k1, k2, k3⟩ := zand255 (((Int32.toUInt32 x) >>> ((Int32.toUInt32 s) &&& Int32.toUInt32 31)).toInt32)
  have : zby x s = nI k := k3
  rw [this]
  exact znar ⟨k, by omega⟩
def zU4 (R : zV) (nb : Nat) (x : Int32) : zV := zU (zU (zU (zU R nb (zby x 24)) (nb + 1) (zby x 16)) (nb + 2) (zby x 8)) (nb + 3) (zby x 0)
theorem zU_p {P : Int32 → Int32 → Prop} {k : Nat} {v : Int32} (hv : P v v) (hR : ∀ i, i < 600 → P (R i) (R' i)) : ∀ i, i < 600 → P (zU R k v i) (zU R' k v i) := fun i hi => by
  unfold zU
  by_cases h1 : i = k
  · rw [if_pos h1, if_pos h1]
    exact hv
  · rw [if_neg h1, if_neg h1]
    exact hR i hi
theorem zU4_p (hR : ∀ i, i < 600 → R i = R' i ∧ zB 0 255 (R' i)) : ∀ i, i < 600 → zU4 R nb x i = zU4 R' nb x i ∧ zB 0 255 (zU4 R' nb x i) :=
  zU_p (P := fun a b => a = b ∧ zB 0 255 b) ⟨rfl, zand255 _⟩ (zU_p (P := fun a b => a = b ∧ zB 0 255 b) ⟨rfl, zand255 _⟩ (zU_p (P := fun a b => a = b ∧ zB 0 255 b) ⟨rfl, zand255 _⟩ (zU_p (P := fun a b => a = b ∧ zB 0 255 b) ⟨rfl, zand255 _⟩ hR)))
theorem zc_app1 {m : Nat} {s : Int32} (hs : ¬ s < 0) (hb : nb < 600) (e : xm_i h 162 1 = nI nb) : f_X9_append_3 N x (m + 1) s h = f_X9_append_3 N x m (s + -8) (xm_si (xm_si h 163 nb (zby x s)) 162 1 (nI (nb + 1))) := by
  show f_X9_append_3B N x (f_X9_append_3 N x m) s h = _
  unfold f_X9_append_3B
  rw [if_neg hs, e, if_pos (show nI nb < 600 from nI_lt (b := 600) hb (by omega)), if_pos (zb_in hb (by decide)), nI_clamp (by omega)]
  simp only [xl]
  rw [xi_ne (by decide), e, nI_1]
  have := znar_by x s
  unfold zby at this
  rw [this]
  rfl
theorem zs_app1 {m : Nat} {s : Int32} (hs : ¬ s < 0) (hb : nb < 600) (e : xm_i h 302 6 = nI nb) : f_X11_append_3 N x (m + 1) s h = f_X11_append_3 N x m (s + -8) (xm_si (xm_si h 306 nb (zby x s)) 302 6 (nI (nb + 1))) := by
  show f_X11_append_3B N x (f_X11_append_3 N x m) s h = _
  unfold f_X11_append_3B
  rw [if_neg hs, e, if_pos (zb_in hb (by decide)), nI_clamp (by omega)]
  simp only [xl]
  rw [xi_ne (by decide), e, nI_1]
  rfl
theorem zc_app (hN : 1000 ≤ N) (hb : nb + 4 ≤ 600) (e : xm_i h 162 1 = nI nb) : ∃ g, f_X9_append N x h = some ((), g) ∧ zF (fun a k => a = 163 ∨ (a = 162 ∧ k = 1)) h g ∧ xm_i g 162 1 = nI (nb + 4) ∧ xm_i g 163 = zU4 (xm_i h 163) nb x := by
  obtain ⟨m, hm⟩ : ∃ m, N = m + 5 := ⟨N - 5, by omega⟩
  unfold f_X9_append
  have key : ∀ M, f_X9_append_3 M x (m + 5) 24 h = some ((), xm_si (xm_si (xm_si (xm_si (xm_si (xm_si (xm_si (xm_si h 163 nb (zby x 24)) 162 1 (nI (nb + 1))) 163 (nb + 1) (zby x 16)) 162 1 (nI (nb + 2))) 163 (nb + 2) (zby x 8)) 162 1 (nI (nb + 3))) 163 (nb + 3) (zby x 0)) 162 1 (nI (nb + 4))) := fun M => by
    rw [zc_app1 (m := m + 4) (by decide) (by omega) e, zc_app1 (m := m + 3) (nb := nb + 1) (by decide) (by omega) xi_eq, zc_app1 (m := m + 2) (nb := nb + 2) (by decide) (by omega) xi_eq, zc_app1 (m := m + 1) (nb := nb + 3) (by decide) (by omega) xi_eq]
    show f_X9_append_3B M x (f_X9_append_3 M x m) _ _ = _
    unfold f_X9_append_3B
    rw [if_pos (by decide)]
    rfl
  have key2 := key N
  rw [← hm] at key2
  refine ⟨_, key2, ((((((((zF.si (by omega)).st (by omega)).st (by omega)).st (by omega)).st (by omega)).st (by omega)).st (by omega)).st (by omega)), xi_eq, ?_⟩
  rw [zU_ot (by decide), zU_si, zU_ot (by decide), zU_si, zU_ot (by decide), zU_si, zU_ot (by decide), zU_si]
  rfl
theorem zs_app (hN : 1000 ≤ N) (hb : nb + 4 ≤ 600) (e : xm_i h 302 6 = nI nb) : ∃ g, f_X11_append N x h = some ((), g) ∧ zF (fun a k => a = 306 ∨ (a = 302 ∧ k = 6)) h g ∧ xm_i g 302 6 = nI (nb + 4) ∧ xm_i g 306 = zU4 (xm_i h 306) nb x := by
  obtain ⟨m, hm⟩ : ∃ m, N = m + 5 := ⟨N - 5, by omega⟩
  unfold f_X11_append
  have key : ∀ M, f_X11_append_3 M x (m + 5) 24 h = some ((), xm_si (xm_si (xm_si (xm_si (xm_si (xm_si (xm_si (xm_si h 306 nb (zby x 24)) 302 6 (nI (nb + 1))) 306 (nb + 1) (zby x 16)) 302 6 (nI (nb + 2))) 306 (nb + 2) (zby x 8)) 302 6 (nI (nb + 3))) 306 (nb + 3) (zby x 0)) 302 6 (nI (nb + 4))) := fun M => by
    rw [zs_app1 (m := m + 4) (by decide) (by omega) e, zs_app1 (m := m + 3) (nb := nb + 1) (by decide) (by omega) xi_eq, zs_app1 (m := m + 2) (nb := nb + 2) (by decide) (by omega) xi_eq, zs_app1 (m := m + 1) (nb := nb + 3) (by decide) (by omega) xi_eq]
    show f_X11_append_3B M x (f_X11_append_3 M x m) _ _ = _
    unfold f_X11_append_3B
    rw [if_pos (by decide)]
    rfl
  have key2 := key N
  rw [← hm] at key2
  refine ⟨_, key2, ((((((((zF.si (by omega)).st (by omega)).st (by omega)).st (by omega)).st (by omega)).st (by omega)).st (by omega)).st (by omega)), xi_eq, ?_⟩
  rw [zU_ot (by decide), zU_si, zU_ot (by decide), zU_si, zU_ot (by decide), zU_si, zU_ot (by decide), zU_si]
  rfl
theorem zo_feed {x1 x2 x3 x4 x5 : Int32} (hN : 1000 ≤ N) (hI : zInv ρ δ nc nt nf na n nv ne la nb bo no cap L xs h) : zOq (f_X10_feed N x1 x2 x3 x4 x5 h) (f_X11_feed N x1 x2 x3 x4 x5) (zPo L xs h) := by
  have hn := hI.n
  obtain ⟨B1, B2, B3, B4⟩ := hI.2.2.2.2.1
  have e20 : nI nb + 20 = nI (nb + 20) := nI_add nb 20
  by_cases hf : 600 < nb + 20
  · have hlt : (600 : Int32) < nI (nb + 20) := nI_lt (a := 600) hf (by omega)
    refine ⟨-2, h, xm_si h 302 4 0, ?_, ?_, ?_⟩
    · unfold f_X10_feed
      rw [B2, e20, if_pos hlt]
    · unfold f_X11_feed
      simp only [xl]
      rw [xi_nk (by decide), B3, e20, if_pos hlt]
    · have F : zF zscr h (xm_si h 302 4 0) := zF.si zscr4
      exact zRO.po hI ⟨F.x, by rw [F.n]; omega, by rw [F.sz]; omega⟩
  have hnl : ¬ (600 : Int32) < nI (nb + 20) := nI_nlt (a := 600) (by omega) (by omega)
  obtain ⟨g1, a1, a2, a3, a4⟩ := zc_app (N := N) (x := x1) (nb := nb) hN (by omega) B2
  obtain ⟨g2, b1, b2, b3, b4⟩ := zc_app (N := N) (x := x2) (nb := nb + 4) hN (by omega) a3
  obtain ⟨g3, c1, c2, c3, c4⟩ := zc_app (N := N) (x := x3) (nb := nb + 8) hN (by omega) b3
  obtain ⟨g4, d1, d2, d3, d4⟩ := zc_app (N := N) (x := x4) (nb := nb + 12) hN (by omega) c3
  obtain ⟨g5, e1, e2, e3, e4⟩ := zc_app (N := N) (x := x5) (nb := nb + 16) hN (by omega) d3
  have Fc : zF (fun a k => a = 163 ∨ (a = 162 ∧ k = 1)) h g5 := a2.tr (b2.tr (c2.tr (d2.tr e2)))
  have F0 : zF (fun a k => a = 302 ∧ k = 4) g5 (xm_si g5 302 4 0) := zF.si ⟨rfl, rfl⟩
  obtain ⟨k1, p1, p2, p3, p4⟩ := zs_app (N := N) (x := x1) (nb := nb) (h := xm_si g5 302 4 0) hN (by omega) (by rw [xi_nk (by decide), Fc.i (by omega)]; exact B3)
  obtain ⟨k2, q1, q2, q3, q4⟩ := zs_app (N := N) (x := x2) (nb := nb + 4) hN (by omega) p3
  obtain ⟨k3, r1, r2, r3, r4⟩ := zs_app (N := N) (x := x3) (nb := nb + 8) hN (by omega) q3
  obtain ⟨k4, s1, s2, s3, s4⟩ := zs_app (N := N) (x := x4) (nb := nb + 12) hN (by omega) r3
  obtain ⟨k5, t1, t2, t3, t4⟩ := zs_app (N := N) (x := x5) (nb := nb + 16) hN (by omega) s3
  have Fs : zF (fun a k => a = 306 ∨ (a = 302 ∧ k = 6)) (xm_si g5 302 4 0) k5 := p2.tr (q2.tr (r2.tr (s2.tr t2)))
  have F : zF (fun a k => a = 163 ∨ (a = 162 ∧ k = 1) ∨ a = 306 ∨ (a = 302 ∧ (k = 4 ∨ k = 6))) h k5 := (Fc.mono (fun a k z => by omega)).tr ((F0.mono (fun a k z => by omega)).tr (Fs.mono (fun a k z => by omega)))
  refine ⟨nI (nb + 20), g5, k5, ?_, ?_, ⟨ρ, δ, nc, nt, nf, na, n, nv, ne, la, nb + 20, bo, no, cap, hI.1.fx F.x, hI.2.1, hI.2.2.1.fx F.x hn (fun a k z1 => by omega), hI.2.2.2.1.fA F.x hn (fun a k z => by unfold zMP at z; omega), ⟨by omega, ?_, t3, fun i hi => ?_⟩, hI.2.2.2.2.2.1.fA F.x hn (fun a k z => by omega), hI.2.2.2.2.2.2.1.fA F.x hn hI.2.2.2.1.1 hI.2.2.2.1.2.1.1 (fun a k z => by omega), hI.2.2.2.2.2.2.2.fA F.x hn (fun a k z => by
      have := hI.2.2.2.2.2.2.2.2.2.2.2.1
      omega)⟩, by rw [F.n]; omega, by rw [F.sz]; omega⟩
  · unfold f_X10_feed
    rw [B2, e20, if_neg hnl, a1, xb_some, b1, xb_some, c1, xb_some, d1, xb_some, e1, xb_some, e3]
  · unfold f_X11_feed
    simp only [xl]
    rw [xi_nk (by decide), show xm_i g5 302 6 = nI nb by rw [Fc.i (by omega)]; exact B3, e20, if_neg hnl, p1, xb_some, q1, xb_some, r1, xb_some, s1, xb_some, t1, xb_some, t3]
  · rw [Fs.i (by omega), F0.i (by omega)]
    exact e3
  · have E1 : xm_i k5 163 = zU4 (zU4 (zU4 (zU4 (zU4 (xm_i h 163) nb x1) (nb + 4) x2) (nb + 8) x3) (nb + 12) x4) (nb + 16) x5 := by
      rw [Fs.row (fun k z => by omega), F0.row (fun k z => by omega), e4, d4, c4, b4, a4]
    have E2 : xm_i k5 306 = zU4 (zU4 (zU4 (zU4 (zU4 (xm_i h 306) nb x1) (nb + 4) x2) (nb + 8) x3) (nb + 12) x4) (nb + 16) x5 := by
      rw [t4, s4, r4, q4, p4, F0.row (fun k z => by omega), Fc.row (fun k z => by omega)]
    rw [E1, E2]
    exact zU4_p (zU4_p (zU4_p (zU4_p (zU4_p B4)))) i hi
end Fd
