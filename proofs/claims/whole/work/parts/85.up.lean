/-! load: the draft changes -/
section Up
variable {L δ nc nt nf na nf' na' k v i c m p q : Nat} {xs : zV} {W V : Nat → List Nat} {h0 k0 hc hr hc' hr' : xm_H}
theorem zV0.up (F : zF (fun a _ => δ ≤ a ∧ a ≤ δ + 17) hc hc') (G : zF (fun a _ => a = 307) hr hr') (hV : zV0 L xs δ h0 k0 nc nt nf na W V k hc hr) (u1 : zWT nc nt nf' na' (xm_i hr' 307)) (u2 : zRT δ nc nf' na' (xm_i hr' 307) hc') (u3 : xm_i hc' δ 8 = nI na') (u6 : ∀ t, t < nt → xm_i hc' (δ + 3 + t) 1 = xm_i hr' 307 (8 + t) ∧ zB 0 999 (xm_i hr' 307 (8 + t))) (u7 : ∀ c, c < nc → xm_i hc' (δ + 10 + c) 1 = xm_i hr' 307 (15 + c) ∧ xm_i hc' (δ + 10 + c) 2 = xm_i hr' 307 (23 + c) ∧ xm_i hc' (δ + 10 + c) 6 = xm_i hr' 307 (55 + c) ∧ zB 1 999 (xm_i hr' 307 (15 + c)) ∧ zB 1 9999 (xm_i hr' 307 (23 + c)) ∧ zB 0 2 (xm_i hr' 307 (55 + c))) (u8 : ∀ c, nc ≤ c → c < 8 → xm_i hr' 307 (55 + c) = 0) (u9 : ∀ k, k < na' → ∃ p q, p < nc ∧ q < nc ∧ p ≠ q ∧ xm_i hr' 307 (64 + k) = nI (2 ^ p ||| 2 ^ q)) : zV0 L xs δ h0 k0 nc nt nf' na' W V k hc' hr' := by
  have hn := hV.ncl
  obtain ⟨v1, v2, v3, ⟨w1, w2, w3, w4, w5, w6, w7, w8, w9⟩, v5, v6⟩ := hV
  have hδ := v1.1
  have h1 := w1.1
  have h2 := w1.2.1
  have X : zXr (fun a _ => δ ≤ a ∧ a ≤ δ + 17) (fun _ _ => False) hc hc' := F.xr
  refine ⟨v1, v2.tr (X.mono (fun a k z => Or.inr (Or.inr z)) (fun a k z => z.elim)), v3.tr ((G.mono (fun a k z => Or.inr z)).fm), ⟨u1, u2, u3, ?_, ?_, u6, u7, u8, u9⟩, by rw [F.n]; exact v5, by rw [F.sz]; exact v6⟩
  · exact w4.out v1.2.1 X (by omega) (fun a k z1 z => by omega) (fun a k _ z => z) (fun t ht z => z) (fun t ht => G.l 309 t)
  · exact w5.out v1.2.1 X (by omega) (fun a k z1 z => by omega) (fun a k _ z => z) (fun t ht z => z) (fun t ht => G.l 310 t)
theorem zV0.d0 (hv : 1 ≤ v ∧ v ≤ 999) (hV : zV0 L xs δ h0 k0 nc nt nf na W V k hc hr) : zV0 L xs δ h0 k0 nc nt nf na W V k (xm_si hc δ 0 (nI v)) (xm_si hr 307 0 (nI v)) := by
  have hV' := hV
  obtain ⟨v1, v2, v3, ⟨w1, w2, w3, w4, w5, w6, w7, w8, w9⟩, v5, v6⟩ := hV
  have hδ := v1.1
  obtain ⟨a1, a2, a3, a4, a5, a6, a7, a8, a9, a10, a11, a12, a13⟩ := w1
  obtain ⟨r1, r2, r3, r4, r5, r6, r7⟩ := w2
  have eD : ∀ j, j ≠ 0 → xm_i (xm_si hr 307 0 (nI v)) 307 j = xm_i hr 307 j := fun j h1 => xi_nk h1
  have eDi : xm_i (xm_si hr 307 0 (nI v)) 307 0 = nI v := xi_eq
  have eC : ∀ a j, ¬ (a = δ ∧ j = 0) → xm_i (xm_si hc δ 0 (nI v)) a j = xm_i hc a j := fun a j h1 => by rw [xi_si, if_neg h1]
  have eCi : xm_i (xm_si hc δ 0 (nI v)) δ 0 = nI v := xi_eq
  refine hV'.up (zF.si (by omega)) (zF.si rfl) ?_ ?_ ?_ ?_ ?_ ?_ ?_
  · exact ⟨a1, a2, a3, a4, a5, (eD _ (by omega)).trans a6, (eD _ (by omega)).trans a7, (eD _ (by omega)).trans a8, (eD _ (by omega)).trans a9, by rw [eDi]; exact zB.nI hv.1 hv.2, by rw [eD _ (by omega)]; exact a11, fun j hj => by rw [eD _ (by omega)]; exact a12 j hj, fun c hc => by rw [eD _ (by omega), eD _ (by omega), eD _ (by omega)]; exact a13 c hc⟩
  · refine ⟨by rw [eCi, eDi], by rw [eC _ _ (by omega), eD _ (by omega)]; exact r2, by rw [eC _ _ (by omega), eD _ (by omega)]; exact r3, by rw [eC _ _ (by omega), eD _ (by omega)]; exact r4, by rw [eC _ _ (by omega), eD _ (by omega)]; exact r5, fun j hj => by rw [eC _ _ (by omega), eD _ (by omega)]; exact r6 j hj, fun c hc => ?_⟩
    obtain ⟨b1, b2, b3, mm, b4, b5, b6⟩ := r7 c hc
    exact ⟨by rw [eC _ _ (by omega), eD _ (by omega)]; exact b1, by rw [eC _ _ (by omega), eD _ (by omega)]; exact b2, by rw [eC _ _ (by omega), eD _ (by omega)]; exact b3, mm, b4, by rw [eC _ _ (by omega)]; exact b5, fun w hw => (b6 w hw).trans (zAp_cg (fun j hj => eD _ (by omega))).symm⟩
  · rw [eC _ _ (by omega)]
    exact w3
  · intro t ht
    rw [eC _ _ (by omega), eD _ (by omega)]
    exact w6 t ht
  · intro c hc
    rw [eC _ _ (by omega), eC _ _ (by omega), eC _ _ (by omega), eD _ (by omega), eD _ (by omega), eD _ (by omega)]
    exact w7 c hc
  · intro c h1 h2
    rw [eD _ (by omega)]
    exact w8 c h1 h2
  · intro j hj
    rw [eD _ (by omega)]
    exact w9 j hj
theorem zV0.d1 (hv : 1 ≤ v ∧ v ≤ 999) (hV : zV0 L xs δ h0 k0 nc nt nf na W V k hc hr) : zV0 L xs δ h0 k0 nc nt nf na W V k (xm_si hc δ 1 (nI v)) (xm_si hr 307 1 (nI v)) := by
  have hV' := hV
  obtain ⟨v1, v2, v3, ⟨w1, w2, w3, w4, w5, w6, w7, w8, w9⟩, v5, v6⟩ := hV
  have hδ := v1.1
  obtain ⟨a1, a2, a3, a4, a5, a6, a7, a8, a9, a10, a11, a12, a13⟩ := w1
  obtain ⟨r1, r2, r3, r4, r5, r6, r7⟩ := w2
  have eD : ∀ j, j ≠ 1 → xm_i (xm_si hr 307 1 (nI v)) 307 j = xm_i hr 307 j := fun j h1 => xi_nk h1
  have eDi : xm_i (xm_si hr 307 1 (nI v)) 307 1 = nI v := xi_eq
  have eC : ∀ a j, ¬ (a = δ ∧ j = 1) → xm_i (xm_si hc δ 1 (nI v)) a j = xm_i hc a j := fun a j h1 => by rw [xi_si, if_neg h1]
  have eCi : xm_i (xm_si hc δ 1 (nI v)) δ 1 = nI v := xi_eq
  refine hV'.up (zF.si (by omega)) (zF.si rfl) ?_ ?_ ?_ ?_ ?_ ?_ ?_
  · exact ⟨a1, a2, a3, a4, a5, (eD _ (by omega)).trans a6, (eD _ (by omega)).trans a7, (eD _ (by omega)).trans a8, (eD _ (by omega)).trans a9, by rw [eD _ (by omega)]; exact a10, by rw [eDi]; exact zB.nI hv.1 hv.2, fun j hj => by rw [eD _ (by omega)]; exact a12 j hj, fun c hc => by rw [eD _ (by omega), eD _ (by omega), eD _ (by omega)]; exact a13 c hc⟩
  · refine ⟨by rw [eC _ _ (by omega), eD _ (by omega)]; exact r1, by rw [eCi, eDi], by rw [eC _ _ (by omega), eD _ (by omega)]; exact r3, by rw [eC _ _ (by omega), eD _ (by omega)]; exact r4, by rw [eC _ _ (by omega), eD _ (by omega)]; exact r5, fun j hj => by rw [eC _ _ (by omega), eD _ (by omega)]; exact r6 j hj, fun c hc => ?_⟩
    obtain ⟨b1, b2, b3, mm, b4, b5, b6⟩ := r7 c hc
    exact ⟨by rw [eC _ _ (by omega), eD _ (by omega)]; exact b1, by rw [eC _ _ (by omega), eD _ (by omega)]; exact b2, by rw [eC _ _ (by omega), eD _ (by omega)]; exact b3, mm, b4, by rw [eC _ _ (by omega)]; exact b5, fun w hw => (b6 w hw).trans (zAp_cg (fun j hj => eD _ (by omega))).symm⟩
  · rw [eC _ _ (by omega)]
    exact w3
  · intro t ht
    rw [eC _ _ (by omega), eD _ (by omega)]
    exact w6 t ht
  · intro c hc
    rw [eC _ _ (by omega), eC _ _ (by omega), eC _ _ (by omega), eD _ (by omega), eD _ (by omega), eD _ (by omega)]
    exact w7 c hc
  · intro c h1 h2
    rw [eD _ (by omega)]
    exact w8 c h1 h2
  · intro j hj
    rw [eD _ (by omega)]
    exact w9 j hj
theorem zV0.pc (hc1 : c < nc) (hm : m ≤ 2) (hV : zV0 L xs δ h0 k0 nc nt nf na W V k hc hr) : zV0 L xs δ h0 k0 nc nt nf na W V k (xm_si hc (δ + 10 + c) 6 (nI m)) (xm_si hr 307 (55 + c) (nI m)) := by
  have hV' := hV
  obtain ⟨v1, v2, v3, ⟨w1, w2, w3, w4, w5, w6, w7, w8, w9⟩, v5, v6⟩ := hV
  have hδ := v1.1
  obtain ⟨a1, a2, a3, a4, a5, a6, a7, a8, a9, a10, a11, a12, a13⟩ := w1
  obtain ⟨r1, r2, r3, r4, r5, r6, r7⟩ := w2
  have h8 : c < 8 := by omega
  have eD : ∀ j, j ≠ 55 + c → xm_i (xm_si hr 307 (55 + c) (nI m)) 307 j = xm_i hr 307 j := fun j h1 => xi_nk h1
  have eC : ∀ a j, ¬ (a = δ + 10 + c ∧ j = 6) → xm_i (xm_si hc (δ + 10 + c) 6 (nI m)) a j = xm_i hc a j := fun a j h1 => by rw [xi_si, if_neg h1]
  refine hV'.up (zF.si (by omega)) (zF.si rfl) ?_ ?_ ?_ ?_ ?_ ?_ ?_
  · exact ⟨a1, a2, a3, a4, a5, (eD _ (by omega)).trans a6, (eD _ (by omega)).trans a7, (eD _ (by omega)).trans a8, (eD _ (by omega)).trans a9, by rw [eD _ (by omega)]; exact a10, by rw [eD _ (by omega)]; exact a11, fun j hj => by rw [eD _ (by omega)]; exact a12 j hj, fun c hc => by rw [eD _ (by omega), eD _ (by omega), eD _ (by omega)]; exact a13 c hc⟩
  · refine ⟨by rw [eC _ _ (by omega), eD _ (by omega)]; exact r1, by rw [eC _ _ (by omega), eD _ (by omega)]; exact r2, by rw [eC _ _ (by omega), eD _ (by omega)]; exact r3, by rw [eC _ _ (by omega), eD _ (by omega)]; exact r4, by rw [eC _ _ (by omega), eD _ (by omega)]; exact r5, fun j hj => by rw [eC _ _ (by omega), eD _ (by omega)]; exact r6 j hj, fun c hc => ?_⟩
    obtain ⟨b1, b2, b3, mm, b4, b5, b6⟩ := r7 c hc
    exact ⟨by rw [eC _ _ (by omega), eD _ (by omega)]; exact b1, by rw [eC _ _ (by omega), eD _ (by omega)]; exact b2, by rw [eC _ _ (by omega), eD _ (by omega)]; exact b3, mm, b4, by rw [eC _ _ (by omega)]; exact b5, fun w hw => (b6 w hw).trans (zAp_cg (fun j hj => eD _ (by omega))).symm⟩
  · rw [eC _ _ (by omega)]
    exact w3
  · intro t ht
    rw [eC _ _ (by omega), eD _ (by omega)]
    exact w6 t ht
  · intro d hd
    obtain ⟨e1, e2, e3, e4, e5, e6⟩ := w7 d hd
    rw [eC _ 1 (by omega), eC _ 2 (by omega), eD (15 + d) (by omega), eD (23 + d) (by omega)]
    by_cases hdc : d = c
    · subst hdc
      rw [xi_eq, xi_eq]
      exact ⟨e1, e2, rfl, e4, e5, zB.nI (by omega) hm⟩
    · rw [eC _ 6 (by omega), eD (55 + d) (by omega)]
      exact ⟨e1, e2, e3, e4, e5, e6⟩
  · intro d h1 h2
    rw [eD _ (by omega)]
    exact w8 d h1 h2
  · intro j hj
    rw [eD _ (by omega)]
    exact w9 j hj
theorem zV0.fc (hi : i < 4) (hif : i ≤ nf) (hv : 1 ≤ v ∧ v ≤ 100) (hV : zV0 L xs δ h0 k0 nc nt nf na W V k hc hr) : zV0 L xs δ h0 k0 nc nt (i + 1) na W V k (xm_si (xm_si hc (δ + 1) i (nI v)) δ 3 (nI (i + 1))) (xm_si (xm_si hr 307 (3 + i) (nI v)) 307 2 (nI (i + 1))) := by
  have hV' := hV
  obtain ⟨v1, v2, v3, ⟨w1, w2, w3, w4, w5, w6, w7, w8, w9⟩, v5, v6⟩ := hV
  have hδ := v1.1
  obtain ⟨a1, a2, a3, a4, a5, a6, a7, a8, a9, a10, a11, a12, a13⟩ := w1
  obtain ⟨r1, r2, r3, r4, r5, r6, r7⟩ := w2
  have eD : ∀ j, j ≠ 2 → j ≠ 3 + i → xm_i (xm_si (xm_si hr 307 (3 + i) (nI v)) 307 2 (nI (i + 1))) 307 j = xm_i hr 307 j := fun j h1 h2 => by rw [xi_nk h1, xi_nk h2]
  have eD2 : xm_i (xm_si (xm_si hr 307 (3 + i) (nI v)) 307 2 (nI (i + 1))) 307 2 = nI (i + 1) := xi_eq
  have eDi : xm_i (xm_si (xm_si hr 307 (3 + i) (nI v)) 307 2 (nI (i + 1))) 307 (3 + i) = nI v := by rw [xi_nk (by omega), xi_eq]
  have eC : ∀ a j, ¬ (a = δ ∧ j = 3) → a ≠ δ + 1 → xm_i (xm_si (xm_si hc (δ + 1) i (nI v)) δ 3 (nI (i + 1))) a j = xm_i hc a j := fun a j h1 h2 => by
    rw [xi_si, if_neg h1, xi_ne h2]
  have eC1 : ∀ j, j ≠ i → xm_i (xm_si (xm_si hc (δ + 1) i (nI v)) δ 3 (nI (i + 1))) (δ + 1) j = xm_i hc (δ + 1) j := fun j h1 => by rw [xi_ne (by omega), xi_nk h1]
  have eCi : xm_i (xm_si (xm_si hc (δ + 1) i (nI v)) δ 3 (nI (i + 1))) (δ + 1) i = nI v := by rw [xi_ne (by omega), xi_eq]
  have eC3 : xm_i (xm_si (xm_si hc (δ + 1) i (nI v)) δ 3 (nI (i + 1))) δ 3 = nI (i + 1) := xi_eq
  refine hV'.up ((zF.si (by omega)).st (by omega)) ((zF.si (A := fun a (_ : Nat) => a = 307) rfl).st rfl) ?_ ?_ ?_ ?_ ?_ ?_ ?_
  · refine ⟨a1, a2, by omega, by omega, a5, (eD _ (by omega) (by omega)).trans a6, (eD _ (by omega) (by omega)).trans a7, eD2, (eD _ (by omega) (by omega)).trans a9, by rw [eD _ (by omega) (by omega)]; exact a10, by rw [eD _ (by omega) (by omega)]; exact a11, fun j hj => ?_, fun c hc => by rw [eD _ (by omega) (by omega), eD _ (by omega) (by omega), eD _ (by omega) (by omega)]; exact a13 c hc⟩
    by_cases hji : j = i
    · rw [hji, eDi]
      exact zB.nI hv.1 hv.2
    · rw [eD _ (by omega) (by omega)]
      exact a12 j (by omega)
  · refine ⟨by rw [eC _ _ (by omega) (by omega), eD _ (by omega) (by omega)]; exact r1, by rw [eC _ _ (by omega) (by omega), eD _ (by omega) (by omega)]; exact r2, by rw [eC3, eD2], by rw [eC _ _ (by omega) (by omega), eD _ (by omega) (by omega)]; exact r4, by rw [eC _ _ (by omega) (by omega), eD _ (by omega) (by omega)]; exact r5, fun j hj => ?_, fun c hc => ?_⟩
    · by_cases hji : j = i
      · rw [hji, eCi, eDi]
      · rw [eC1 _ hji, eD _ (by omega) (by omega)]
        exact r6 j (by omega)
    · obtain ⟨b1, b2, b3, mm, b4, b5, b6⟩ := r7 c hc
      exact ⟨by rw [eC _ _ (by omega) (by omega), eD _ (by omega) (by omega)]; exact b1, by rw [eC _ _ (by omega) (by omega), eD _ (by omega) (by omega)]; exact b2, by rw [eC _ _ (by omega) (by omega), eD _ (by omega) (by omega)]; exact b3, mm, b4, by rw [eC _ _ (by omega) (by omega)]; exact b5, fun w hw => (b6 w hw).trans (zAp_cg (fun j hj => eD _ (by omega) (by omega))).symm⟩
  · rw [eC _ _ (by omega) (by omega)]
    exact w3
  · intro t ht
    rw [eC _ _ (by omega) (by omega), eD _ (by omega) (by omega)]
    exact w6 t ht
  · intro c hc
    rw [eC _ _ (by omega) (by omega), eC _ _ (by omega) (by omega), eC _ _ (by omega) (by omega), eD _ (by omega) (by omega), eD _ (by omega) (by omega), eD _ (by omega) (by omega)]
    exact w7 c hc
  · intro c h1 h2
    rw [eD _ (by omega) (by omega)]
    exact w8 c h1 h2
  · intro j hj
    rw [eD _ (by omega) (by omega)]
    exact w9 j hj
end Up
