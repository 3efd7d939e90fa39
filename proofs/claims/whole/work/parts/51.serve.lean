/-! serving: the impressions of one auction -/
def zS1 (u : Int32) (n j c : Nat) (p : Int32) (S : zV) : zV := zU (zU (zU (zU (zU (zU (zU S (57 + 5 * n) (S 0)) (57 + 5 * n + 1) u) (57 + 5 * n + 2) (nI c)) (57 + 5 * n + 3) (nI j)) (57 + 5 * n + 4) p) 1 (nI (n + 1))) (3 + 6 * c + 2) (S (3 + 6 * c + 2) + p)
def zSj (u : Int32) (n : Nat) (cs : Nat → Nat) (ps : Nat → Int32) (S : zV) : Nat → zV
  | 0 => S
  | j + 1 => zS1 u (n + j) j (cs j) (ps j) (zSj u n cs ps S j)
def zAs (n a k : Nat) : Prop := a = 201 ∨ a = 206 ∨ (210 ≤ a ∧ a ≤ 214 ∧ n ≤ k)
section Sv
variable {N ρ nc nt nf na n nv j c : Nat} {S T : zV} {h g : xm_H} {u p : Int32} {cs : Nat → Nat} {ps : Nat → Int32}
theorem zS1_ot {i : Nat} (h1 : i ≠ 1) (h2 : i ≠ 3 + 6 * c + 2) (h3 : i < 57 + 5 * n ∨ 57 + 5 * n + 4 < i) : zS1 u n j c p S i = S i := by
  unfold zS1
  rw [zU_ne h2, zU_ne h1, zU_ne (by omega), zU_ne (by omega), zU_ne (by omega), zU_ne (by omega), zU_ne (by omega)]
theorem zS1_1 : zS1 u n j c p S 1 = nI (n + 1) := by
  unfold zS1
  rw [zU_ne (by omega), zU_eq]
theorem zS1_sp : zS1 u n j c p S (3 + 6 * c + 2) = S (3 + 6 * c + 2) + p := zU_eq
theorem zS1_im (hc : c < 8) : zS1 u n j c p S (57 + 5 * n) = S 0 ∧ zS1 u n j c p S (57 + 5 * n + 1) = u ∧ zS1 u n j c p S (57 + 5 * n + 2) = nI c ∧ zS1 u n j c p S (57 + 5 * n + 3) = nI j ∧ zS1 u n j c p S (57 + 5 * n + 4) = p := by
  unfold zS1
  refine ⟨?_, ?_, ?_, ?_, ?_⟩
  · rw [zU_ne (by omega), zU_ne (by omega), zU_ne (by omega), zU_ne (by omega), zU_ne (by omega), zU_ne (by omega), zU_eq]
  · rw [zU_ne (by omega), zU_ne (by omega), zU_ne (by omega), zU_ne (by omega), zU_ne (by omega), zU_eq]
  · rw [zU_ne (by omega), zU_ne (by omega), zU_ne (by omega), zU_ne (by omega), zU_eq]
  · rw [zU_ne (by omega), zU_ne (by omega), zU_ne (by omega), zU_eq]
  · rw [zU_ne (by omega), zU_ne (by omega), zU_eq]
theorem zS1_ws (hWS : zWS nc nt n nv S) (hn : n < 400) (hnc : nc ≤ 8) (hnt : nt ≤ 6) (hc : c < nc) (hj : j < 4) (hu : zB 0 15 u) (hp : ∃ q sp bu, p = nI q ∧ q ≤ 999 ∧ S (3 + 6 * c + 2) = nI sp ∧ S (3 + 6 * c + 1) = nI bu ∧ sp + q ≤ bu ∧ bu ≤ 9999) : zWS nc nt (n + 1) nv (zS1 u n j c p S) := by
  obtain ⟨w1, w2, w3, w4, w5, w6, w7, w8⟩ := hWS
  obtain ⟨q, sp, bu, p1, p2, p3, p4, p5, p6⟩ := hp
  refine ⟨by omega, w2, ?_, zS1_1, ?_, ?_, fun t ht => ?_, fun k hk => ?_⟩
  · rw [zS1_ot (by omega) (by omega) (by omega)]
    exact w3
  · rw [zS1_ot (by omega) (by omega) (by omega)]
    exact w5
  · intro d hd
    obtain ⟨b1, b2, ⟨s', u', b3, b3', b3'', b3'''⟩, b4, b5, b6⟩ := w6 d hd
    have o : ∀ w, w < 6 → w ≠ 2 → zS1 u n j c p S (3 + 6 * d + w) = S (3 + 6 * d + w) := fun w hw h2 => zS1_ot (by omega) (by omega) (by omega)
    refine ⟨by rw [show 3 + 6 * d = 3 + 6 * d + 0 from rfl, o 0 (by omega) (by omega)]; exact b1, by rw [o 1 (by omega) (by omega)]; exact b2, ?_, by rw [o 3 (by omega) (by omega)]; exact b4, by rw [o 4 (by omega) (by omega)]; exact b5, by rw [o 5 (by omega) (by omega)]; exact b6⟩
    rw [o 1 (by omega) (by omega)]
    by_cases hdc : d = c
    · subst hdc
      rw [zS1_sp, p3, p1, nI_add]
      exact ⟨sp + q, bu, rfl, p4, p5, p6⟩
    · rw [zS1_ot (by omega) (by omega) (by omega)]
      exact ⟨s', u', b3, b3', b3'', b3'''⟩
  · rw [zS1_ot (by omega) (by omega) (by omega)]
    exact w7 t ht
  · by_cases hkn : k = n
    · subst hkn
      obtain ⟨i0, i1, i2, i3, i4⟩ := zS1_im (u := u) (n := k) (j := j) (p := p) (S := S) (show c < 8 by omega)
      rw [i0, i1, i2, i3, i4]
      exact ⟨w3, hu, ⟨c, hc, rfl⟩, zB.nI (by omega) (by omega), by rw [p1]; exact zB.nI (by omega) p2⟩
    · have o : ∀ w, w < 5 → zS1 u n j c p S (57 + 5 * k + w) = S (57 + 5 * k + w) := fun w hw => zS1_ot (by omega) (by omega) (by omega)
      rw [show 57 + 5 * k = 57 + 5 * k + 0 from rfl, o 0 (by omega), show 57 + 5 * k + 0 = 57 + 5 * k from rfl, o 1 (by omega), o 2 (by omega), o 3 (by omega), o 4 (by omega)]
      exact w8 k (by omega)
theorem zRA_s1 (hR : zRA ρ nc nt nf na n S T h) (hnc : nc ≤ 8) (hnt : nt ≤ 6) (hc : c < nc) (hF : zF (fun a k => (a = 206 ∧ k = c) ∨ (a = 201 ∧ k = 2) ∨ (210 ≤ a ∧ a ≤ 214 ∧ k = n)) h g) (e6 : xm_i g 206 c = xm_i h 206 c + p) (e1 : xm_i g 201 2 = nI (n + 1)) (r0 : xm_i g 210 n = S 0) (r1 : xm_i g 211 n = u) (r2 : xm_i g 212 n = nI c) (r3 : xm_i g 213 n = nI j) (r4 : xm_i g 214 n = p) : zRA ρ nc nt nf na (n + 1) (zS1 u n j c p S) T g := by
  obtain ⟨a1, a2, a3, a4, a5, a6⟩ := hR.2.2.1
  refine ⟨hR.1, zRT.fr hR.1 hF (fun a k z w => by omega) hnc hR.2.1, ⟨?_, ?_, ?_, ?_, fun t ht => ?_, fun d hd => ?_⟩, fun k hk => ?_⟩
  · rw [hF.i (by omega), zS1_ot (by omega) (by omega) (by omega)]
    exact a1
  · rw [hF.i (by omega), zS1_ot (by omega) (by omega) (by omega)]
    exact a2
  · rw [zS1_1]
    exact e1
  · rw [hF.i (by omega), zS1_ot (by omega) (by omega) (by omega)]
    exact a4
  · rw [hF.i (by omega), zS1_ot (by omega) (by omega) (by omega)]
    exact a5 t ht
  · obtain ⟨b1, b2, b3, b4, b5, b6⟩ := a6 d hd
    refine ⟨?_, ?_, ?_, ?_, ?_, ?_⟩
    · rw [hF.i (by omega), zS1_ot (by omega) (by omega) (by omega)]
      exact b1
    · rw [hF.i (by omega), zS1_ot (by omega) (by omega) (by omega)]
      exact b2
    · rw [hF.i (by omega), zS1_ot (by omega) (by omega) (by omega)]
      exact b3
    · by_cases hdc : d = c
      · subst hdc
        rw [zS1_sp, ← b4]
        exact e6
      · rw [hF.i (by omega), zS1_ot (by omega) (by omega) (by omega)]
        exact b4
    · rw [hF.i (by omega), zS1_ot (by omega) (by omega) (by omega)]
      exact b5
    · rw [hF.i (by omega), zS1_ot (by omega) (by omega) (by omega)]
      exact b6
  · by_cases hkn : k = n
    · subst hkn
      obtain ⟨i0, i1, i2, i3, i4⟩ := zS1_im (u := u) (n := k) (j := j) (p := p) (S := S) (show c < 8 by omega)
      rw [i0, i1, i2, i3, i4]
      exact ⟨r0, r1, r2, r3, r4⟩
    · obtain ⟨b0, b1, b2, b3, b4⟩ := hR.2.2.2 k (by omega)
      refine ⟨?_, ?_, ?_, ?_, ?_⟩
      · rw [hF.i (by omega), zS1_ot (by omega) (by omega) (by omega)]
        exact b0
      · rw [hF.i (by omega), zS1_ot (by omega) (by omega) (by omega)]
        exact b1
      · rw [hF.i (by omega), zS1_ot (by omega) (by omega) (by omega)]
        exact b2
      · rw [hF.i (by omega), zS1_ot (by omega) (by omega) (by omega)]
        exact b3
      · rw [hF.i (by omega), zS1_ot (by omega) (by omega) (by omega)]
        exact b4
/-- one record of the class -/
theorem zc_record (hn : n < 400) (hj : j < 4) (h1 : xm_i h 201 2 = nI n) : ∃ g, f_X2_record u (nI j) h = some ((), g) ∧ zF (fun a k => (a = 201 ∧ k = 2) ∨ (210 ≤ a ∧ a ≤ 214 ∧ k = n)) h g ∧ xm_i g 201 2 = nI (n + 1) ∧ xm_i g 210 n = xm_i h 201 0 ∧ xm_i g 211 n = u ∧ xm_i g 212 n = xm_i h 218 j ∧ xm_i g 213 n = nI j ∧ xm_i g 214 n = xm_i h 219 j := by
  unfold f_X2_record
  rw [h1, if_pos (show nI n < 400 from nI_lt (b := 400) hn (by omega)), if_pos (zb_in hn (by decide))]
  simp only [xl, nI_clamp (show n < 2 ^ 31 by omega), if_pos (zb_in (show j < 4 by omega) (by decide)), nI_clamp (show j < 2 ^ 31 by omega)]
  refine ⟨_, rfl, (((((((zF.rf).st (Or.inr ⟨by omega, by omega, rfl⟩)).st (Or.inr ⟨by omega, by omega, rfl⟩)).st (Or.inr ⟨by omega, by omega, rfl⟩)).st (Or.inr ⟨by omega, by omega, rfl⟩)).st (Or.inr ⟨by omega, by omega, rfl⟩)).st (Or.inl ⟨rfl, rfl⟩)), ?_, ?_, ?_, ?_, ?_, ?_⟩
  · rw [xi_eq, xi_ne (by decide), xi_ne (by decide), xi_ne (by decide), xi_ne (by decide), xi_ne (by decide), h1, nI_1]
  · rw [xi_ne (by decide), xi_ne (by decide), xi_ne (by decide), xi_ne (by decide), xi_ne (by decide), xi_eq]
  · rw [xi_ne (by decide), xi_ne (by decide), xi_ne (by decide), xi_ne (by decide), xi_eq]
  · rw [xi_ne (by decide), xi_ne (by decide), xi_ne (by decide), xi_eq, xi_ne (by decide), xi_ne (by decide)]
  · rw [xi_ne (by decide), xi_ne (by decide), xi_eq]
  · rw [xi_ne (by decide), xi_eq, xi_ne (by decide), xi_ne (by decide), xi_ne (by decide), xi_ne (by decide)]
theorem zSj_1 (h1 : S 1 = nI n) : ∀ i, zSj u n cs ps S i 1 = nI (n + i) := by
  intro i
  cases i with
  | zero => exact h1
  | succ i => exact zS1_1
theorem zSj_ot {i : Nat} (h1 : i ≠ 1) : ∀ m, (∀ j, j < m → i ≠ 3 + 6 * cs j + 2) → (i < 57 + 5 * n ∨ 57 + 5 * (n + m) ≤ i) → zSj u n cs ps S m i = S i := by
  intro m
  induction m with
  | zero => intro _ _; rfl
  | succ m ih =>
    intro h2 h3
    unfold zSj
    rw [zS1_ot h1 (h2 m (by omega)) (by omega), ih (fun j hj => h2 j (by omega)) (by omega)]
theorem zSj_ws (hWS : zWS nc nt n nv S) (hnc : nc ≤ 8) (hnt : nt ≤ 6) (hu : zB 0 15 u) : ∀ m, m ≤ 4 → n + m ≤ 400 → (∀ j, j < m → cs j < nc ∧ ∃ q sp bu, ps j = nI q ∧ q ≤ 999 ∧ S (3 + 6 * cs j + 2) = nI sp ∧ S (3 + 6 * cs j + 1) = nI bu ∧ sp + q ≤ bu ∧ bu ≤ 9999) → (∀ i j, i < j → j < m → cs i ≠ cs j) → zWS nc nt (n + m) nv (zSj u n cs ps S m) := by
  intro m
  induction m with
  | zero => intro _ _ _ _; exact hWS
  | succ m ih =>
    intro h4 h5 hp hd
    obtain ⟨c1, q, sp, bu, p1, p2, p3, p4, p5, p6⟩ := hp m (by omega)
    unfold zSj
    refine zS1_ws (n := n + m) (ih (by omega) (by omega) (fun j hj => hp j (by omega)) (fun i j hi hj => hd i j hi (by omega))) (by omega) hnc hnt c1 (by omega) hu ⟨q, sp, bu, p1, p2, ?_, ?_, p5, p6⟩
    · rw [zSj_ot (by omega) m (fun j hj => by have := hd j m hj (by omega); omega) (by omega)]
      exact p3
    · rw [zSj_ot (by omega) m (fun j hj => by have := hd j m hj (by omega); omega) (by omega)]
      exact p4
/-- the class serves -/
theorem zc_serve32 {m : Nat} (hN : 1000 ≤ N) (hm : m ≤ 4) (hn : n + m ≤ 400) (hnc : nc ≤ 8) (hnt : nt ≤ 6) (hR : zRA ρ nc nt nf na n S T h) (hS1 : S 1 = nI n) (hct : xm_i h 182 9 = nI m) (hcs : ∀ j, j < m → cs j < nc ∧ xm_i h 218 j = nI (cs j) ∧ xm_i h 219 j = ps j) : ∃ g, f_X2_serve_32 N ρ u N 0 h = some (nI m, g) ∧ zF (zAs n) h g ∧ zRA ρ nc nt nf na (n + m) (zSj u n cs ps S m) T g := by
  obtain ⟨m2, ⟨c2, g⟩, ⟨e1, e2, e3⟩, hE⟩ := zlpO (N := N) (F := fun n s => f_X2_serve_32 N ρ u n s.1 s.2) (I := fun i s => s.1 = nI i ∧ zF (zAs n) h s.2 ∧ zRA ρ nc nt nf na (n + i) (zSj u n cs ps S i) T s.2) (L := m) (s := (0, h)) (by omega) ⟨rfl, zF.rf, (by exact hR)⟩ (by
    rintro m2 i ⟨c2, g⟩ hi ⟨e1, e2, e3⟩
    dsimp only at e1 e2 e3 ⊢
    subst e1
    obtain ⟨k1, k2, k3⟩ := hcs i hi
    have q9 : xm_i g 182 9 = nI m := by rw [e2.i (by unfold zAs; omega)]; exact hct
    have q218 : xm_i g 218 i = nI (cs i) := by rw [e2.i (by unfold zAs; omega)]; exact k2
    have q219 : xm_i g 219 i = ps i := by rw [e2.i (by unfold zAs; omega)]; exact k3
    have q2 : xm_i g 201 2 = nI (n + i) := e3.2.2.1.2.2.1.trans (zSj_1 hS1 i)
    obtain ⟨g2, r1, r2, r3, r4, r5, r6, r7, r8⟩ := zc_record (n := n + i) (j := i) (u := u) (h := xm_si g 206 (cs i) (xm_i g 206 (cs i) + ps i)) (by omega) (by omega) (by rw [xi_ne (by decide)]; exact q2)
    have hF : zF (fun a k => (a = 206 ∧ k = cs i) ∨ (a = 201 ∧ k = 2) ∨ (210 ≤ a ∧ a ≤ 214 ∧ k = n + i)) g g2 := (zF.si (Or.inl ⟨rfl, rfl⟩)).tr (r2.mono (fun a k z => Or.inr z))
    refine ⟨(nI (i + 1), g2), ⟨rfl, e2.tr (hF.mono (fun a k z => by unfold zAs; omega)), ?_⟩, ?_⟩
    · exact zRA_s1 (n := n + i) (g := g2) e3 hnc hnt k1 hF (by rw [r2.i (by omega), xi_eq]) r3 (by rw [r4, xi_ne (by decide)]; exact e3.2.2.1.1) r5 (by rw [r6, xi_ne (by decide)]; exact q218) r7 (by rw [r8, xi_ne (by decide)]; exact q219)
    · show f_X2_serve_32B N ρ u (f_X2_serve_32 N ρ u m2) (nI i) g = _
      unfold f_X2_serve_32B
      rw [q9, if_pos (nI_lt hi (by omega)), if_pos (zb_in (by omega) (by decide))]
      simp only [nI_clamp (show i < 2 ^ 31 by omega), q218, q219, nI_clamp (show cs i < 2 ^ 31 by omega), if_pos (zb_in (show cs i < 8 by omega) (by decide)), xl, r1, xb_some, nI_1])
  dsimp only at e1 e2 e3
  subst e1
  have q9 : xm_i g 182 9 = nI m := by rw [e2.i (by unfold zAs; omega)]; exact hct
  refine ⟨g, hE.trans ?_, e2, e3⟩
  show f_X2_serve_32B N ρ u (f_X2_serve_32 N ρ u m2) (nI m) g = _
  unfold f_X2_serve_32B
  rw [q9, if_neg (zlt_irr _)]
/-- the reference serves -/
theorem zs_takeOver {m : Nat} (hN : 1000 ≤ N) (hm : m ≤ 4) (hn : n + m ≤ 400) (hS1 : xm_i h 303 1 = nI n) (hct : xm_i h 302 28 = nI m) (hcs : ∀ j, j < m → cs j < 8 ∧ xm_i h 313 j = nI (cs j) ∧ xm_i h 314 j = ps j) : ∃ g, f_X11_takeOver N u h = some (zsm ps m, g) ∧ zF (fun a k => a = 303 ∧ k < 2217) h g ∧ xm_i g 303 = zSj u n cs ps (xm_i h 303) m := by
  unfold f_X11_takeOver
  obtain ⟨m2, ⟨c1, c2, g⟩, ⟨e0, e1, e2, e3⟩, hE⟩ := zlpO (N := N) (F := fun n s => f_X11_takeOver_4 N u n s.1 s.2.1 s.2.2) (I := fun i s => s.1 = zsm ps i ∧ s.2.1 = nI i ∧ zF (fun a k => a = 303 ∧ k < 2217) h s.2.2 ∧ xm_i s.2.2 303 = zSj u n cs ps (xm_i h 303) i) (L := m) (s := (0, 0, h)) (by omega) ⟨rfl, rfl, zF.rf, rfl⟩ (by
    rintro m2 i ⟨c1, c2, g⟩ hi ⟨e0, e1, e2, e3⟩
    dsimp only at e0 e1 e2 e3 ⊢
    subst e1
    subst e0
    obtain ⟨k1, k2, k3⟩ := hcs i hi
    have q9 : xm_i g 302 28 = nI m := by rw [e2.i (by omega)]; exact hct
    have q313 : xm_i g 313 i = nI (cs i) := by rw [e2.i (by omega)]; exact k2
    have q314 : xm_i g 314 i = ps i := by rw [e2.i (by omega)]; exact k3
    have q2 : xm_i g 303 1 = nI (n + i) := by rw [e3]; exact zSj_1 hS1 i
    refine ⟨(zsm ps (i + 1), nI (i + 1), xm_si (xm_si (xm_si (xm_si (xm_si (xm_si (xm_si g 303 (57 + 5 * (n + i)) (xm_i g 303 0)) 303 (57 + 5 * (n + i) + 1) u) 303 (57 + 5 * (n + i) + 2) (nI (cs i))) 303 (57 + 5 * (n + i) + 3) (nI i)) 303 (57 + 5 * (n + i) + 4) (ps i)) 303 1 (nI (n + i + 1))) 303 (3 + 6 * cs i + 2) (xm_i g 303 (3 + 6 * cs i + 2) + ps i)), ⟨rfl, rfl, ?_, ?_⟩, ?_⟩
    · dsimp only
      exact ((((((e2.st ⟨rfl, by omega⟩).st ⟨rfl, by omega⟩).st ⟨rfl, by omega⟩).st ⟨rfl, by omega⟩).st ⟨rfl, by omega⟩).st ⟨rfl, by omega⟩).st ⟨rfl, by omega⟩
    · dsimp only
      rw [zU_si, zU_si, zU_si, zU_si, zU_si, zU_si, zU_si, e3]
      rfl
    · show f_X11_takeOver_4B N u (f_X11_takeOver_4 N u m2) (zsm ps i) (nI i) g = _
      unfold f_X11_takeOver_4B
      have x0 : (57 : Int32) + 5 * nI (n + i) = nI (57 + 5 * (n + i)) := by
        rw [show (57 : Int32) = nI 57 from rfl, show (5 : Int32) = nI 5 from rfl, pk_mul, nI_add]
      have x2 : nI (57 + 5 * (n + i)) + 2 = nI (57 + 5 * (n + i) + 2) := nI_add _ 2
      have x3 : nI (57 + 5 * (n + i)) + 3 = nI (57 + 5 * (n + i) + 3) := nI_add _ 3
      have x4 : nI (57 + 5 * (n + i)) + 4 = nI (57 + 5 * (n + i) + 4) := nI_add _ 4
      rw [q9, if_pos (nI_lt hi (by omega)), q2]
      simp only [x0, nI_1, x2, x3, x4, nI_clamp (show 57 + 5 * (n + i) < 2 ^ 31 by omega), nI_clamp (show 57 + 5 * (n + i) + 1 < 2 ^ 31 by omega), nI_clamp (show 57 + 5 * (n + i) + 2 < 2 ^ 31 by omega), nI_clamp (show 57 + 5 * (n + i) + 3 < 2 ^ 31 by omega), nI_clamp (show 57 + 5 * (n + i) + 4 < 2 ^ 31 by omega), if_pos (zb_in (show 57 + 5 * (n + i) < 2217 by omega) (by decide)), if_pos (zb_in (show 57 + 5 * (n + i) + 1 < 2217 by omega) (by decide)), if_pos (zb_in (show 57 + 5 * (n + i) + 2 < 2217 by omega) (by decide)), if_pos (zb_in (show 57 + 5 * (n + i) + 3 < 2217 by omega) (by decide)), if_pos (zb_in (show 57 + 5 * (n + i) + 4 < 2217 by omega) (by decide)), if_pos (zb_in (show i < 4 by omega) (by decide)), nI_clamp (show i < 2 ^ 31 by omega), xl, zU_ot (show 313 ≠ 303 by decide), zU_ot (show 314 ≠ 303 by decide), q313, q314, zs_of2 k1, xb_some, zs_set2 k1]
      have v1 : ∀ a b c d e : Int32, xm_i (xm_si (xm_si (xm_si (xm_si (xm_si g 303 (57 + 5 * (n + i)) a) 303 (57 + 5 * (n + i) + 1) b) 303 (57 + 5 * (n + i) + 2) c) 303 (57 + 5 * (n + i) + 3) d) 303 (57 + 5 * (n + i) + 4) e) 303 1 = nI (n + i) := fun a b c d e => by
        rw [xi_nk (by omega), xi_nk (by omega), xi_nk (by omega), xi_nk (by omega), xi_nk (by omega)]
        exact q2
      rw [v1, nI_1, xi_nk (by omega), xi_nk (by omega), xi_nk (by omega), xi_nk (by omega), xi_nk (by omega), xi_nk (by omega)]
      rfl)
  dsimp only at e0 e1 e2 e3
  subst e1
  subst e0
  have q9 : xm_i g 302 28 = nI m := by rw [e2.i (by omega)]; exact hct
  refine ⟨g, hE.trans ?_, e2, e3⟩
  show f_X11_takeOver_4B N u (f_X11_takeOver_4 N u m2) (zsm ps m) (nI m) g = _
  unfold f_X11_takeOver_4B
  rw [q9, if_neg (zlt_irr _)]
end Sv
