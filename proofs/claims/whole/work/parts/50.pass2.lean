/-! ticks: the class, and the call -/
def zTks (S T : zV) (nc : Nat) : Nat → zV
  | 0 => S
  | i + 1 => zTick (zTks S T nc i) T nc
theorem zmax2 (a b : Int32) : (if a < b then b else a) = if b < a then a else b := by
  by_cases h1 : a < b
  · rw [if_pos h1, if_neg]
    rw [Int32.lt_iff_toInt_lt] at *
    omega
  · rw [if_neg h1]
    by_cases h2 : b < a
    · rw [if_pos h2]
    · rw [if_neg h2]
      rw [Int32.lt_iff_toInt_lt] at *
      exact Int32.toInt_inj.mp (by omega)
theorem zmin2 (a b : Int32) : (if b < a then b else a) = if a < b then a else b := by
  by_cases h1 : b < a
  · rw [if_pos h1, if_neg]
    rw [Int32.lt_iff_toInt_lt] at *
    omega
  · rw [if_neg h1]
    by_cases h2 : a < b
    · rw [if_pos h2]
    · rw [if_neg h2]
      rw [Int32.lt_iff_toInt_lt] at *
      exact Int32.toInt_inj.mp (by omega)
theorem zmods {t d : Nat} (hd : 1 ≤ d) : (t + 1) % d = if t % d + 1 < d then t % d + 1 else 0 := by
  have h1 : t + 1 = d * (t / d) + (t % d + 1) := by
    have := Nat.div_add_mod t d
    omega
  rw [h1, Nat.mul_add_mod]
  have h2 : t % d < d := Nat.mod_lt _ (by omega)
  by_cases h3 : t % d + 1 < d
  · rw [if_pos h3, Nat.mod_eq_of_lt h3]
  · rw [if_neg h3, show t % d + 1 = d by omega, Nat.mod_self]
section Pass2
variable {N ρ δ nc nt nf na n nv ne la nb bo no cap L : Nat} {xs : zV} {S T : zV} {h : xm_H} {x y z w : Int32}
theorem zRI_cg {S' : zV} (h57 : ∀ i, 57 ≤ i → S' i = S i) (hR : zRI n S h) : zRI n S' h := by
  intro k hk
  rw [h57 _ (by omega), h57 _ (by omega), h57 _ (by omega), h57 _ (by omega), h57 _ (by omega)]
  exact hR k hk
theorem zRA_s3 {c : Nat} {v : Int32} (hc : c < 8) (hnc : nc ≤ 8) (hR : zRA ρ nc nt nf na n S T h) : zRA ρ nc nt nf na n (zU S (3 + 6 * c + 3) v) T (xm_si h 207 c v) := by
  have hF : zF (fun a _ => a = 207) h (xm_si h 207 c v) := zF.si rfl
  exact ⟨hR.1, zRT.fr hR.1 hF (fun a k z w => by omega) hnc hR.2.1, zRS_s3 hc hR.2.2.1, zRI_cg (fun i hi => zU_ne (by omega)) (zRI.fr hF (fun a k z1 z2 w => by omega) hR.2.2.2)⟩
theorem zc_control {c : Nat} (hR : zRA ρ nc nt nf na n S T h) (hnc : nc ≤ 8) (hd : zB 1 999 (T 0)) (hc : c < nc) (hm : ¬ S (3 + 6 * c + 4) = 0) : ∃ h', f_X2_control ρ (nI c) h = some ((), h') ∧ zF (fun a _ => a = 207) h h' ∧ zRA ρ nc nt nf na n (zU S (3 + 6 * c + 3) (zCtl S T c)) T h' := by
  obtain ⟨b1, b2, b3, b4, b5, b6⟩ := hR.2.2.1.2.2.2.2.2 c hc
  have e4 : xm_i h 206 c = S (3 + 6 * c + 2) := b4
  have e5 : xm_i h 207 c = S (3 + 6 * c + 3) := b5
  unfold f_X2_control zCtl
  rw [zc_planned hR hnc hd hc, xb_some, if_pos (zb_in (by omega) (by decide)), nI_clamp (by omega), e4, e5, if_neg hm]
  by_cases h2 : zPl S T c < S (3 + 6 * c + 2)
  · rw [if_pos h2, if_pos h2, zmax2]
    exact ⟨_, rfl, zF.si rfl, zRA_s3 (by omega) hnc hR⟩
  rw [if_neg h2, if_neg h2]
  by_cases h3 : S (3 + 6 * c + 2) < zPl S T c
  · rw [if_pos h3, if_pos h3, zmin2]
    exact ⟨_, rfl, zF.si rfl, zRA_s3 (by omega) hnc hR⟩
  · rw [if_neg h3, if_neg h3]
    exact ⟨h, rfl, zF.rf, by rw [zU_id rfl]; exact hR⟩
theorem zc_beginDay (hN : 1000 ≤ N) : ∃ h', f_X7_beginDay N h = some ((), h') ∧ zF (fun a k => (a = 201 ∧ k = 1) ∨ a = 206 ∨ a = 207) h h' ∧ xm_i h' 201 1 = 0 ∧ (∀ c, c < 8 → xm_i h' 206 c = 0 ∧ xm_i h' 207 c = 100) := by
  unfold f_X7_beginDay
  simp only [xl]
  obtain ⟨m, ⟨c1, g⟩, ⟨e1, e2, e3, e4⟩, hE⟩ := zlpO (N := N) (F := fun n s => f_X7_beginDay_7 N n s.1 s.2) (I := fun i s => s.1 = nI i ∧ zF (fun a k => (a = 201 ∧ k = 1) ∨ a = 206 ∨ a = 207) h s.2 ∧ xm_i s.2 201 1 = 0 ∧ (∀ c, c < i → xm_i s.2 206 c = 0 ∧ xm_i s.2 207 c = 100)) (L := 8) (s := (0, xm_si h 201 1 0)) (by omega) ⟨rfl, zF.si (Or.inl ⟨rfl, rfl⟩), xi_eq, fun c hc => by omega⟩ (by
    rintro m i ⟨c1, g⟩ hi ⟨e1, e2, e3, e4⟩
    dsimp only at e1 e2 e3 e4 ⊢
    subst e1
    refine ⟨(nI (i + 1), xm_si (xm_si g 206 i 0) 207 i 100), ⟨rfl, (e2.st (Or.inr (Or.inl rfl))).st (Or.inr (Or.inr rfl)), ?_, fun c hc => ?_⟩, ?_⟩
    · dsimp only
      rw [xi_ne (by decide), xi_ne (by decide)]
      exact e3
    · dsimp only
      by_cases e : c = i
      · rw [e, xi_ne (by decide), xi_eq, xi_eq]
        exact ⟨rfl, rfl⟩
      · rw [xi_ne (by decide), xi_nk e, xi_nk e, xi_ne (by decide)]
        exact e4 c (by omega)
    · show f_X7_beginDay_7B N (f_X7_beginDay_7 N m) (nI i) g = _
      unfold f_X7_beginDay_7B
      rw [if_pos (show nI i < 8 from nI_lt (b := 8) hi (by decide)), if_pos (zb_in hi (by decide)), nI_clamp (by omega), nI_1]
      rfl)
  dsimp only at e1 e2 e3 e4
  subst e1
  refine ⟨g, hE.trans ?_, e2, e3, e4⟩
  show f_X7_beginDay_7B N (f_X7_beginDay_7 N m) (nI 8) g = _
  unfold f_X7_beginDay_7B
  rw [if_neg (show ¬ nI 8 < 8 from zlt_irr (nI 8))]
theorem zTk_v {c w : Nat} (hnc : nc ≤ 8) (hc : c < nc) (hw : w < 6) : zTk1 S T nc (3 + 6 * c + w) = if w = 3 then zCtl S T c else S (3 + 6 * c + w) := by
  unfold zTk1
  rw [zU_ne (by omega)]
  by_cases h3 : w = 3
  · subst h3
    rw [if_pos rfl, zMpC_at hc (by omega)]
  · rw [if_neg h3, zMpC_ne (by omega)]
theorem zTk_hi {i : Nat} (hnc : nc ≤ 8) (hi : 51 ≤ i ∨ i = 1 ∨ i = 2) : zTick S T nc i = S i := by
  have h1 : zTk1 S T nc i = S i := by
    unfold zTk1
    rw [zU_ne (by omega), zMpC_ne (by omega)]
  unfold zTick
  split
  · rw [zMpC_ne (by omega), zMpC_ne (by omega), h1]
  · exact h1
theorem zTk_0 : zTick S T nc 0 = S 0 + 1 := by
  have h1 : zTk1 S T nc 0 = S 0 + 1 := zU_eq
  unfold zTick
  split
  · rw [zMpC_ne (by omega), zMpC_ne (by omega), h1]
  · exact h1
theorem zCtl_b {c : Nat} (hm : zB 10 100 (S (3 + 6 * c + 3))) : zB 10 100 (zCtl S T c) := by
  obtain ⟨m, m1, m2, m3⟩ := hm
  unfold zCtl
  rw [m3]
  split
  · exact ⟨m, m1, m2, rfl⟩
  · split
    · rw [show (10 : Int32) = nI 10 from rfl, pk_sub m1]
      split
      · rename_i h9
        rw [nI_ltI (by omega) (by omega)] at h9
        exact ⟨m - 10, by omega, by omega, rfl⟩
      · exact ⟨10, by omega, by omega, rfl⟩
    · split
      · rw [show (5 : Int32) = nI 5 from rfl, nI_add, show (100 : Int32) = nI 100 from rfl]
        split
        · rename_i h9
          rw [nI_ltI (by omega) (by omega)] at h9
          exact ⟨m + 5, by omega, by omega, rfl⟩
        · exact ⟨100, by omega, by omega, rfl⟩
      · exact ⟨m, m1, m2, rfl⟩
theorem zTk_at {c w : Nat} (hnc : nc ≤ 8) (hc : c < nc) (hw : w < 6) : zTick S T nc (3 + 6 * c + w) = if (S 0 + 1) - (S 0 + 1) / T 0 * T 0 = 0 then (if w = 3 then 100 else if w = 2 then 0 else S (3 + 6 * c + w)) else (if w = 3 then zCtl S T c else S (3 + 6 * c + w)) := by
  unfold zTick
  split
  · by_cases h3 : w = 3
    · subst h3
      rw [if_pos rfl, zMpC_at hc (by omega)]
    · rw [if_neg h3, zMpC_ne (by omega)]
      by_cases h2 : w = 2
      · subst h2
        rw [if_pos rfl, zMpC_at hc (by omega)]
      · rw [if_neg h2, zMpC_ne (by omega), zTk_v hnc hc hw, if_neg h3]
  · exact zTk_v hnc hc hw
theorem zTk_ws {tk : Nat} (hnc : nc ≤ 8) (hWS : zWS nc nt n nv S) (htk : S 0 = nI tk) (h2 : tk + 1 ≤ 20000) : zWS nc nt n nv (zTick S T nc) := by
  obtain ⟨w1, w2, w3, w4, w5, w6, w7, w8⟩ := hWS
  refine ⟨w1, w2, by rw [zTk_0, htk, nI_1]; exact ⟨tk + 1, by omega, h2, rfl⟩, by rw [zTk_hi hnc (by omega)]; exact w4, by rw [zTk_hi hnc (by omega)]; exact w5, fun c hc => ?_, fun t ht => by rw [zTk_hi hnc (by omega)]; exact w7 t ht, fun k hk => by rw [zTk_hi hnc (by omega), zTk_hi hnc (by omega), zTk_hi hnc (by omega), zTk_hi hnc (by omega), zTk_hi hnc (by omega)]; exact w8 k hk⟩
  obtain ⟨b1, b2, b3, b4, b5, b6⟩ := w6 c hc
  have v := fun w (hw : w < 6) => zTk_at (S := S) (T := T) hnc hc hw
  have v0 : zTick S T nc (3 + 6 * c) = _ := v 0 (by omega)
  rw [v0, v 1 (by omega), v 2 (by omega), v 3 (by omega), v 4 (by omega), v 5 (by omega)]
  split
  · refine ⟨b1, b2, ?_, ⟨100, by omega, by omega, rfl⟩, b5, b6⟩
    obtain ⟨sp, bu, q1, q2, q3, q4⟩ := b3
    exact ⟨0, bu, rfl, q2, by omega, q4⟩
  · exact ⟨b1, b2, b3, zCtl_b b4, b5, b6⟩
theorem zc_passTick {tk : Nat} (hN : 1000 ≤ N) (hR : zRA ρ nc nt nf na n S T h) (hWT : zWT nc nt nf na T) (htk : S 0 = nI tk) (htb : tk ≤ 20000) : ∃ h', f_X2_passTick N ρ h = some ((), h') ∧ zF (fun a k => (a = 201 ∧ k < 2) ∨ a = 206 ∨ a = 207) h h' ∧ zRA ρ nc nt nf na n (zTick S T nc) T h' := by
  have hnc := hWT.1
  have hr164 : ρ = 164 ∨ ρ = 183 := hR.1
  have hd := hWT.2.2.2.2.2.2.2.2.2.1
  unfold f_X2_passTick
  obtain ⟨m, ⟨c1, g⟩, ⟨e1, e2, e3⟩, hE⟩ := zlpO (N := N) (F := fun n s => fun K => f_X2_passTick_2 N ρ K n s.1 s.2) (I := fun i s => s.1 = nI i ∧ zF (fun a k => (a = 201 ∧ k < 2) ∨ a = 206 ∨ a = 207) h s.2 ∧ zRA ρ nc nt nf na n (zMpC i 3 (zCtl S T) S) T s.2) (L := nc) (s := (0, h)) (by omega) ⟨rfl, zF.rf, by rw [show zMpC 0 3 (zCtl S T) S = S from funext fun k => zMpC_ne (by omega)]; exact hR⟩ (by
    rintro m i ⟨c1, g⟩ hi ⟨e1, e2, e3⟩
    dsimp only at e1 e2 e3 ⊢
    subst e1
    have hv : ∀ w, w < 6 → zMpC i 3 (zCtl S T) S (3 + 6 * i + w) = S (3 + 6 * i + w) := fun w hw => zMpC_ne (by omega)
    have hv0 : zMpC i 3 (zCtl S T) S 0 = S 0 := zMpC_ne (by omega)
    have hct : zCtl (zMpC i 3 (zCtl S T) S) T i = zCtl S T i := by
      generalize zMpC i 3 (zCtl S T) S = R at hv hv0 ⊢
      unfold zCtl zPl
      rw [hv 4 (by omega), hv 3 (by omega), hv 2 (by omega), hv 1 (by omega), hv0]
    have e7 : xm_i g ρ 7 = nI nc := e3.2.1.2.2.2.2.1.trans hWT.2.2.2.2.2.1
    have e205 : xm_i g 205 i = S (3 + 6 * i + 4) := ((e3.2.2.1.2.2.2.2.2 i hi).2.2.1).trans (hv 4 (by omega))
    rw [zMpC_s (by omega)]
    by_cases hm : S (3 + 6 * i + 4) = 0
    · refine ⟨(nI (i + 1), g), ⟨rfl, e2, ?_⟩, ?_⟩
      · dsimp only
        rw [zU_id (show zMpC i 3 (zCtl S T) S (3 + 6 * i + 3) = zCtl S T i by rw [hv 3 (by omega)]; unfold zCtl; rw [if_pos hm])]
        exact e3
      · funext K
        show f_X2_passTick_2B N ρ K (f_X2_passTick_2 N ρ K m) (nI i) g = _
        unfold f_X2_passTick_2B
        rw [e7, if_pos (nI_lt hi (by omega)), if_pos (zb_in (by omega) (by decide)), nI_clamp (by omega), e205, if_pos hm, nI_1]
    · obtain ⟨g', k1, k2, k3⟩ := zc_control (c := i) e3 hnc hd hi (by rw [hv 4 (by omega)]; exact hm)
      rw [hct] at k3
      refine ⟨(nI (i + 1), g'), ⟨rfl, e2.tr (k2.mono (fun a k z => Or.inr (Or.inr z))), k3⟩, ?_⟩
      funext K
      show f_X2_passTick_2B N ρ K (f_X2_passTick_2 N ρ K m) (nI i) g = _
      unfold f_X2_passTick_2B
      rw [e7, if_pos (nI_lt hi (by omega)), if_pos (zb_in (by omega) (by decide)), nI_clamp (by omega), e205, if_neg hm, k1, xb_some, nI_1])
  dsimp only at e1 e2 e3
  subst e1
  have e7 : xm_i g ρ 7 = nI nc := e3.2.1.2.2.2.2.1.trans hWT.2.2.2.2.2.1
  have hE2 : ∀ K, f_X2_passTick_2 N ρ K N 0 h = K g := fun K => by
    refine (congrFun hE K).trans ?_
    show f_X2_passTick_2B N ρ K (f_X2_passTick_2 N ρ K m) (nI nc) g = _
    unfold f_X2_passTick_2B
    rw [e7, if_neg (zlt_irr _)]
  rw [hE2]
  simp only [xl]
  obtain ⟨d, d1, d2, d3⟩ := hd
  have hm0 : zMpC nc 3 (zCtl S T) S 0 = S 0 := zMpC_ne (by omega)
  have g0 : xm_i g 201 0 = nI tk := (e3.2.2.1.1.trans hm0).trans htk
  have g1 : xm_i g 201 1 = nI (tk % d) := by
    rw [e3.2.2.1.2.1, hm0, htk, d3, pk_rem (by omega) (by omega) (by omega)]
  have gr : xm_i g ρ 0 = nI d := e3.2.1.1.trans d3
  have hmd : tk % d < d := Nat.mod_lt _ (by omega)
  have hF4 : zF (fun a k => (a = 201 ∧ k < 2) ∨ a = 206 ∨ a = 207) h (xm_si (xm_si g 201 0 (xm_i g 201 0 + 1)) 201 1 (xm_i (xm_si g 201 0 (xm_i g 201 0 + 1)) 201 1 + 1)) := (e2.st (Or.inl ⟨rfl, by omega⟩)).st (Or.inl ⟨rfl, by omega⟩)
  have k1 : xm_i (xm_si (xm_si g 201 0 (xm_i g 201 0 + 1)) 201 1 (xm_i (xm_si g 201 0 (xm_i g 201 0 + 1)) 201 1 + 1)) 201 1 = nI (tk % d + 1) := by rw [xi_eq, xi_nk (by decide), g1, nI_1]
  have k0 : xm_i (xm_si (xm_si g 201 0 (xm_i g 201 0 + 1)) 201 1 (xm_i (xm_si g 201 0 (xm_i g 201 0 + 1)) 201 1 + 1)) 201 0 = nI (tk + 1) := by rw [xi_nk (by decide), xi_eq, g0, nI_1]
  have ko : ∀ a k, (a ≠ 201 ∨ 2 ≤ k) → xm_i (xm_si (xm_si g 201 0 (xm_i g 201 0 + 1)) 201 1 (xm_i (xm_si g 201 0 (xm_i g 201 0 + 1)) 201 1 + 1)) a k = xm_i g a k := fun a k hk => by
    rw [xi_si, if_neg (by omega), xi_si, if_neg (by omega)]
  generalize xm_si (xm_si g 201 0 (xm_i g 201 0 + 1)) 201 1 (xm_i (xm_si g 201 0 (xm_i g 201 0 + 1)) 201 1 + 1) = g4 at *
  rw [k1, ko ρ 0 (by omega), gr]
  have hdn : (S 0 + 1) - (S 0 + 1) / T 0 * T 0 = nI ((tk + 1) % d) := by rw [htk, nI_1, d3, pk_rem (by omega) (by omega) (by omega)]
  have hmodlt : (tk + 1) % d < d := Nat.mod_lt _ (by omega)
  have hday : ((S 0 + 1) - (S 0 + 1) / T 0 * T 0 = 0) ↔ ¬ tk % d + 1 < d := by
    rw [hdn, show (0 : Int32) = nI 0 from rfl, nI_eq (by omega) (by omega), zmods d1]
    by_cases h9 : tk % d + 1 < d
    · rw [if_pos h9]
      omega
    · rw [if_neg h9]
      exact ⟨fun _ => h9, fun _ => rfl⟩
  have hz0 : zTick S T nc 0 - zTick S T nc 0 / T 0 * T 0 = nI ((tk + 1) % d) := by rw [zTk_0, hdn]
  have hfin : ∀ g5, zF (fun a k => (a = 201 ∧ k < 2) ∨ a = 206 ∨ a = 207) h g5 → xm_i g5 201 0 = nI (tk + 1) → xm_i g5 201 1 = nI ((tk + 1) % d) → (∀ a k, ((202 ≤ a ∧ a ≤ 205) ∨ a = 208 ∨ (a = 201 ∧ 2 ≤ k)) → xm_i g5 a k = xm_i g a k) → (∀ c, c < nc → xm_i g5 206 c = zTick S T nc (3 + 6 * c + 2) ∧ xm_i g5 207 c = zTick S T nc (3 + 6 * c + 3)) → zRA ρ nc nt nf na n (zTick S T nc) T g5 := by
    intro g5 f1 f2 f3 f4 f5
    refine ⟨hR.1, zRT.fr hR.1 f1 (fun a k z w => by omega) hnc hR.2.1, ?_, zRI_cg (fun i hi => zTk_hi hnc (by omega)) (zRI.fr f1 (fun a k z1 z2 w => by omega) hR.2.2.2)⟩
    obtain ⟨a1, a2, a3, a4, a5, a6⟩ := e3.2.2.1
    refine ⟨by rw [f2, zTk_0, htk, nI_1], by rw [f3, hz0], ?_, ?_, fun t ht => ?_, fun c hc => ?_⟩
    · rw [f4 _ _ (by omega), a3, zMpC_ne (by omega), zTk_hi hnc (by omega)]
    · rw [f4 _ _ (by omega), a4, zMpC_ne (by omega), zTk_hi hnc (by omega)]
    · rw [f4 _ _ (by omega), a5 t ht, zMpC_ne (by omega), zTk_hi hnc (by omega)]
    · obtain ⟨b1, b2, b3, b4, b5, b6⟩ := a6 c hc
      have v := fun w (hw : w < 6) (h3 : w ≠ 3) (h2 : w ≠ 2) => show zMpC nc 3 (zCtl S T) S (3 + 6 * c + w) = zTick S T nc (3 + 6 * c + w) by
        rw [zMpC_ne (by omega), zTk_at hnc hc hw, if_neg h3, if_neg h2, if_neg h3]
        split <;> rfl
      have v0 : zMpC nc 3 (zCtl S T) S (3 + 6 * c) = zTick S T nc (3 + 6 * c) := v 0 (by omega) (by omega) (by omega)
      exact ⟨by rw [f4 _ _ (by omega), b1, v0], by rw [f4 _ _ (by omega), b2, v 1 (by omega) (by omega) (by omega)], by rw [f4 _ _ (by omega), b3, v 4 (by omega) (by omega) (by omega)], (f5 c hc).1, (f5 c hc).2, by rw [f4 _ _ (by omega), b6, v 5 (by omega) (by omega) (by omega)]⟩
  by_cases hlt : tk % d + 1 < d
  · rw [if_pos (nI_lt hlt (by omega))]
    have hnd : ¬ ((S 0 + 1) - (S 0 + 1) / T 0 * T 0 = 0) := fun z => hday.mp z hlt
    refine ⟨g4, rfl, hF4, hfin g4 hF4 k0 (by rw [k1, zmods d1, if_pos hlt]) (fun a k hk => ko a k (by omega)) (fun c hc => ?_)⟩
    obtain ⟨b1, b2, b3, b4, b5, b6⟩ := e3.2.2.1.2.2.2.2.2 c hc
    rw [ko _ _ (by omega), ko _ _ (by omega), zTk_at hnc hc (by omega), zTk_at hnc hc (by omega), if_neg hnd, if_neg hnd, if_neg (by omega), if_pos rfl]
    exact ⟨b4.trans (zMpC_ne (by omega)), b5.trans (zMpC_at hc (by omega))⟩
  · rw [if_neg (nI_nlt (by omega) (by omega))]
    have hyd := hday.mpr hlt
    obtain ⟨g5, q1, q2, q3, q4⟩ := zc_beginDay (N := N) (h := g4) hN
    rw [q1, xb_some]
    have hF5 : zF (fun a k => (a = 201 ∧ k < 2) ∨ a = 206 ∨ a = 207) h g5 := hF4.tr (q2.mono (fun a k z => by omega))
    refine ⟨g5, rfl, hF5, hfin g5 hF5 (by rw [q2.i (by omega)]; exact k0) (by rw [q3, zmods d1, if_neg hlt]; rfl) (fun a k hk => by rw [q2.i (by omega)]; exact ko a k (by omega)) (fun c hc => ?_)⟩
    rw [zTk_at hnc hc (by omega), zTk_at hnc hc (by omega), if_pos hyd, if_pos hyd, if_neg (by omega), if_pos rfl, if_pos rfl]
    exact q4 c (by omega)
/-- ticks together -/
theorem zTks_hi {i : Nat} (hnc : nc ≤ 8) (hi : 51 ≤ i ∨ i = 1 ∨ i = 2) : ∀ k, zTks S T nc k i = S i := by
  intro k
  induction k with
  | zero => rfl
  | succ k ih =>
    unfold zTks
    rw [zTk_hi hnc hi, ih]
theorem zTks_0 {tk : Nat} (htk : S 0 = nI tk) : ∀ k, zTks S T nc k 0 = nI (tk + k) := by
  intro k
  induction k with
  | zero => exact htk
  | succ k ih =>
    unfold zTks
    rw [zTk_0, ih, nI_1]
    rfl
theorem zTks_ws {tk : Nat} (hnc : nc ≤ 8) (hWS : zWS nc nt n nv S) (htk : S 0 = nI tk) : ∀ k, tk + k ≤ 20000 → zWS nc nt n nv (zTks S T nc k) := by
  intro k
  induction k with
  | zero => intro _; exact hWS
  | succ k ih =>
    intro h2
    unfold zTks
    exact zTk_ws hnc (ih (by omega)) (zTks_0 htk k) (by omega)
theorem zo_pass (hN : 20000 ≤ N) (hI : zInv ρ δ nc nt nf na n nv ne la nb bo no cap L xs h) : zOp (f_L_pass N ρ x h) (f_X11_pass N x) (zPo L xs h) := by
  have hn := hI.n
  have hnc := hI.wt.1
  have hb := fun g => zbtL 1 200 x g (lo64 := 1) (hi64 := 200) rfl rfl
  obtain ⟨tk, t1, t2, t3⟩ := hI.2.2.2.1.2.2.2.1.2.2.2.1
  have e0 : xm_i h 201 0 = nI tk := hI.ra.2.2.1.1.trans t3
  have hcmp : ∀ k, k ≤ 20000 → ((0 < lg_cmp ((nI tk).toInt64 + (nI k).toInt64) (9999 : Int64)) ↔ 9999 < tk + k) := fun k hk => by
    rw [lg_cmp_gt, nI_l (by omega), nI_l (by omega), Int64.lt_iff_toInt_lt]
    have e1 : (lN tk + lN k) = lN (tk + k) := by
      unfold lN
      exact (Int64.ofNat_add tk k).symm
    rw [e1, lN_toInt (by omega)]
    have : (9999 : Int64).toInt = 9999 := rfl
    omega
  rcases zq_ix1 x (n := 200) (by omega) with hx | ⟨k, hk1, hk2, rfl⟩
  · have hx' : x < 1 ∨ 200 < x := hx
    refine (zop_bad (h := h) (k := 1) (b := 0) zks15 (by decide) ?_ ?_).mono (fun g hg => hg.po hI)
    · unfold f_L_pass f_X10_pass
      rw [zq_R0 hx', xe_inr, xe_inr]
      rfl
    · unfold f_X11_pass
      rw [hb, xb_some, zbt_0 hx', zs_good_0, zs_good_0]
      simp only [xb_some]
      split
      · rfl
      · rfl
  have hl1 : ¬ nI k < 1 := nI_nlt (b := 1) (by omega) (by omega)
  have hl2 : ¬ (200 : Int32) < nI k := nI_nlt (a := 200) (by omega) (by omega)
  by_cases hov : 9999 < tk + k
  · refine (zop_bad (h := h) (k := 2) (b := 0) zks16 (by decide) ?_ ?_).mono (fun g hg => hg.po hI)
    · unfold f_L_pass f_X10_pass
      rw [zq_R1 hl1 hl2, xe_inl, e0, nI_add, if_pos (show (9999 : Int32) < _ from nI_lt (a := 9999) hov (by omega)), xe_inr]
      rfl
    · unfold f_X11_pass
      rw [hb, xb_some, xi_new (by omega), t3, if_pos ((hcmp k (by omega)).mpr hov), zbt_1 hl1 hl2, zs_good_1, xb_some]
      rfl
  obtain ⟨h1, r1, r2, r3, r4⟩ := zc_rem hI
  -- the class
  obtain ⟨m, ⟨c2, hc⟩, ⟨e1, e2, e3⟩, hE⟩ := zlpO (N := N) (F := fun n s => f_X10_pass_52 N ρ (nI k) n s.1 s.2) (I := fun i s => s.1 = nI i ∧ zF (fun a k => (a = 201 ∧ k < 2) ∨ a = 206 ∨ a = 207) h1 s.2 ∧ zRA ρ nc nt nf na n (zTks (xm_i h 303) (xm_i h 308) nc i) (xm_i h 308) s.2) (L := k) (s := (0, h1)) (by omega) ⟨rfl, zF.rf, (by exact r3)⟩ (by
    rintro m i ⟨c2, g⟩ hi ⟨e1, e2, e3⟩
    dsimp only at e1 e2 e3 ⊢
    subst e1
    obtain ⟨g', k1, k2, k3⟩ := zc_passTick (N := N) (tk := tk + i) (by omega) e3 hI.wt (zTks_0 t3 i) (by omega)
    refine ⟨(nI (i + 1), g'), ⟨rfl, e2.tr k2, k3⟩, ?_⟩
    show f_X10_pass_52B N ρ (nI k) (f_X10_pass_52 N ρ (nI k) m) (nI i) g = _
    unfold f_X10_pass_52B
    rw [if_pos (nI_lt hi (by omega)), k1, xb_some, nI_1])
  dsimp only at e1 e2 e3
  subst e1
  have ehc : xm_i hc 201 0 = nI (tk + k) := e3.2.2.1.1.trans (zTks_0 t3 k)
  have hend : f_X10_pass_52 N ρ (nI k) N 0 h1 = some (.inl (nI (tk + k)), hc) := by
    refine hE.trans ?_
    show f_X10_pass_52B N ρ (nI k) (f_X10_pass_52 N ρ (nI k) m) (nI k) hc = _
    unfold f_X10_pass_52B
    rw [if_neg (zlt_irr _), ehc]
  have hF2 : zF (fun a _ => 201 ≤ a ∧ a ≤ 208) h1 hc := e2.mono (fun a k z => by omega)
  obtain ⟨hr, s1, s2, s3⟩ := zm_rem (N := N) (v := Int32.toInt64 (nI (tk + k))) hN hI r2 (hF2.mono (fun a k z => Or.inr (Or.inl z)))
  -- the reference
  obtain ⟨m2, ⟨c3, hm⟩, ⟨d1, d2, d3⟩, hE2⟩ := zlpO (N := N) (F := fun n s => f_X11_pass_46 N (nI k) n s.1 s.2) (I := fun i s => s.1 = nI i ∧ zF (fun a k => a = 303 ∧ k < 51) hr s.2 ∧ xm_i s.2 303 = zTks (xm_i h 303) (xm_i h 308) nc i) (L := k) (s := (0, hr)) (by omega) ⟨rfl, zF.rf, (by exact s3.1)⟩ (by
    rintro m i ⟨c2, g⟩ hi ⟨e1, e2, e3⟩
    dsimp only at e1 e2 e3 ⊢
    subst e1
    have eT : xm_i g 308 = xm_i h 308 := (e2.row (fun k z => by omega)).trans s3.2.1
    obtain ⟨g', k1, k2, k3⟩ := zs_passTick (N := N) (nc := nc) (h := g) (by omega) hnc (by rw [eT]; exact hI.T14) (by rw [eT]; exact hI.d0)
    rw [e3, eT] at k3
    refine ⟨(nI (i + 1), g'), ⟨rfl, e2.tr k2, k3⟩, ?_⟩
    show f_X11_pass_46B N (nI k) (f_X11_pass_46 N (nI k) m) (nI i) g = _
    unfold f_X11_pass_46B
    rw [if_pos (nI_lt hi (by omega)), k1, xb_some, nI_1])
  dsimp only at d1 d2 d3
  subst d1
  have ehm : xm_i hm 303 0 = nI (tk + k) := by rw [d3]; exact zTks_0 t3 k
  have hend2 : f_X11_pass_46 N (nI k) N 0 hr = some (nI (tk + k), hm) := by
    refine hE2.trans ?_
    show f_X11_pass_46B N (nI k) (f_X11_pass_46 N (nI k) m2) (nI k) hm = _
    unfold f_X11_pass_46B
    rw [if_neg (zlt_irr _), ehm]
  have hws := zTks_ws (T := xm_i h 308) hnc hI.ws t3 k (by omega)
  have hS2 : ∀ i, (51 ≤ i ∨ i = 1 ∨ i = 2) → xm_i hm 303 i = xm_i h 303 i := fun i hi => by rw [d3]; exact zTks_hi hnc hi k
  have X1 : zX (fun a k => zscr a k ∨ (201 ≤ a ∧ a ≤ 208) ∨ a = 303 ∨ a = 305 ∨ a = 302 ∨ (234 ≤ a ∧ a ≤ 299)) h h1 := r2.1.x.mono (fun a k z => by unfold zA1 at z; right; omega)
  have X2 : zX (fun a k => zscr a k ∨ (201 ≤ a ∧ a ≤ 208) ∨ a = 303 ∨ a = 305 ∨ a = 302 ∨ (234 ≤ a ∧ a ≤ 299)) h1 hc := hF2.x.mono (fun a k z => Or.inr (Or.inl z))
  have X4 : zX (fun a k => zscr a k ∨ (201 ≤ a ∧ a ≤ 208) ∨ a = 303 ∨ a = 305 ∨ a = 302 ∨ (234 ≤ a ∧ a ≤ 299)) (xm_sl hc 316 0 (Int32.toInt64 (nI (tk + k)))) hr := s2.x.mono (fun a k z => by right; omega)
  have X5 : zX (fun a k => zscr a k ∨ (201 ≤ a ∧ a ≤ 208) ∨ a = 303 ∨ a = 305 ∨ a = 302 ∨ (234 ≤ a ∧ a ≤ 299)) hr hm := d2.x.mono (fun a k z => by right; omega)
  have hX := X1.tr (X2.tr ((zX.out _).tr (X4.tr X5)))
  have q : ∀ a k, 201 ≤ a → a ≤ 208 → xm_i hm a k = xm_i hc a k := fun a k z1 z2 => by
    rw [d2.i (by omega), s2.i (by omega), xi_sl]
  refine zed (n' := n) (nv' := nv) hI r2 (hF2.mono (fun a k z => Or.inr (Or.inl z))) ?_ s2 s3 ?_ (d2.mono (fun a k z => Or.inr ⟨z.1, by omega⟩)) (by rw [d2.i (by omega)]; exact s3.2.2.2.1) (Nat.le_refl _) (Nat.le_refl _) ?_
  · unfold f_L_pass f_X10_pass
    rw [zq_R1 hl1 hl2, xe_inl, e0, nI_add, if_neg (show ¬ (9999 : Int32) < _ from nI_nlt (a := 9999) (by omega) (by omega)), r1, xb_some, hend, xe_inl]
    rfl
  · have eS0 : xm_i (xm_sl hc 316 0 (Int32.toInt64 (nI (tk + k)))) 303 0 = nI tk := by
      rw [xi_sl, e2.i (by omega), r2.1.i (by unfold zA1; omega)]
      exact t3
    unfold f_X11_pass
    rw [hb, xb_some, eS0, if_neg (fun z => hov ((hcmp k (by omega)).mp z)), zbt_1 hl1 hl2, zs_good_2, xb_some, if_neg (by decide), s1, xb_some, hend2]
  · obtain ⟨⟨w1, w2, w3, w4, w5, w6, w7, w8⟩, v, n1, tt, rr, p1, i1, c1⟩ := hI.2.2.2.1.2.2.2.1
    rw [← d3] at hws
    refine ⟨hws, fun j hj => ?_, n1, by rw [ehm]; exact ⟨tk + k, by omega, by omega, rfl⟩, ?_, fun i hi => ?_, ?_, ?_⟩
    · rw [hS2 _ (by omega), hS2 _ (by omega), hS2 _ (by omega), hS2 _ (by omega)]
      exact v j hj
    · rw [d3]
      obtain ⟨a1, a2, a3, a4, a5, a6⟩ := e3.2.2.1
      refine ⟨(q _ _ (by omega) (by omega)).trans a1, (q _ _ (by omega) (by omega)).trans a2, (q _ _ (by omega) (by omega)).trans a3, (q _ _ (by omega) (by omega)).trans a4, fun t ht => (q _ _ (by omega) (by omega)).trans (a5 t ht), fun c hc' => ?_⟩
      obtain ⟨b1, b2, b3, b4, b5, b6⟩ := a6 c hc'
      exact ⟨(q _ _ (by omega) (by omega)).trans b1, (q _ _ (by omega) (by omega)).trans b2, (q _ _ (by omega) (by omega)).trans b3, (q _ _ (by omega) (by omega)).trans b4, (q _ _ (by omega) (by omega)).trans b5, (q _ _ (by omega) (by omega)).trans b6⟩
    · rw [q _ _ (by omega) (by omega), e2.i (by omega)]
      exact r4 i hi
    · exact zRI_cg (fun i hi => hS2 i (by omega)) (zRI.fx hX hn (fun a k z1 z2 z3 z => by unfold zscr at z; omega) i1)
    · refine zRV.cg (S := xm_i h 303) (n := n) (fun k hk => (v k hk).2.2.2) (by omega) (fun k w _ _ => hS2 _ (by omega)) (fun i w _ _ => hS2 _ (by omega)) ?_
      exact zRV.fx hX hn (fun a k z1 z2 z3 z => by unfold zscr at z; omega) (fun k c z1 z2 z => by unfold zscr at z; omega) c1
end Pass2
