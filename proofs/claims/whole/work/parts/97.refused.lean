/-! load: frames with references and longs -/
def zGf (A R M : Nat → Nat → Prop) (h h' : xm_H) : Prop := xm_n h ≤ xm_n h' ∧ ∀ a, a < xm_n h → xm_k h' a = xm_k h a ∧ (∀ k, ¬ R a k → xm_r h' a k = xm_r h a k) ∧ (∀ k, ¬ A a k → xm_i h' a k = xm_i h a k) ∧ ∀ k, ¬ M a k → xm_l h' a k = xm_l h a k
def zHf (h hm : xm_H) : xm_H := (hm.1, hm.2.1, hm.2.2.1, h.2.2.2.1, hm.2.2.2.2.1, h.2.2.2.2.2)
set_option maxRecDepth 100000 in
theorem xRD_d : ∀ j : Fin 15, j.1 = 6 ∨ (xRD (164 + 3 + j.1) 0 = none ∧ xRD (183 + 3 + j.1) 0 = none) := by decide +kernel
set_option maxRecDepth 100000 in
theorem xRD_s : xRD 182 0 = none ∧ xRD 161 3 = none := by decide +kernel
section Mf
variable {A A' R R' M M' : Nat → Nat → Prop} {h h1 h2 hm : xm_H} {ρ δ ρ' δ' L bo no cap : Nat} {xs : zV}
theorem zGf.tr (e1 : zGf A R M h h1) (e2 : zGf A R M h1 h2) : zGf A R M h h2 := ⟨Nat.le_trans e1.1 e2.1, fun a ha => by
  obtain ⟨a1, a2, a3, a4⟩ := e1.2 a ha
  obtain ⟨b1, b2, b3, b4⟩ := e2.2 a (Nat.lt_of_lt_of_le ha e1.1)
  exact ⟨b1.trans a1, fun k n => (b2 k n).trans (a2 k n), fun k n => (b3 k n).trans (a3 k n), fun k n => (b4 k n).trans (a4 k n)⟩⟩
theorem zGf.mono (e1 : zGf A R M h h1) (hA : ∀ a k, A a k → A' a k) (hR : ∀ a k, R a k → R' a k) (hM : ∀ a k, M a k → M' a k) : zGf A' R' M' h h1 := ⟨e1.1, fun a ha => ⟨(e1.2 a ha).1, fun k n => (e1.2 a ha).2.1 k (fun z => n (hR a k z)), fun k n => (e1.2 a ha).2.2.1 k (fun z => n (hA a k z)), fun k n => (e1.2 a ha).2.2.2 k (fun z => n (hM a k z))⟩⟩
theorem zXr.mf (e : zXr A R h h1) : zGf A R (fun a k => a = 316 ∨ (a = 302 ∧ k = 16)) h h1 := e
theorem zFm.mf (e : zFm A M h h1) : zGf A R M h h1 := ⟨Nat.le_of_eq e.n.symm, fun a _ => ⟨e.k a, fun k _ => e.r a k, fun k n => e.i n, fun k n => e.l n⟩⟩
theorem zGf.i (e : zGf A R M h h1) {a k : Nat} (ha : a < xm_n h) (n : ¬ A a k) : xm_i h1 a k = xm_i h a k := (e.2 a ha).2.2.1 k n
theorem zGf.k (e : zGf A R M h h1) {a : Nat} (ha : a < xm_n h) : xm_k h1 a = xm_k h a := (e.2 a ha).1
theorem zGf.r (e : zGf A R M h h1) {a k : Nat} (ha : a < xm_n h) (n : ¬ R a k) : xm_r h1 a k = xm_r h a k := (e.2 a ha).2.1 k n
theorem zGf.l (e : zGf A R M h h1) {a k : Nat} (ha : a < xm_n h) (n : ¬ M a k) : xm_l h1 a k = xm_l h a k := (e.2 a ha).2.2.2 k n
theorem zGf.x (e : zGf A R M h hm) : zX A h (zHf h hm) := ⟨e.1, fun a ha => ⟨(e.2 a ha).1, fun _ => rfl, (e.2 a ha).2.2.1, fun _ _ => rfl⟩⟩
theorem zGf.str {a b : Nat} {w : List Nat} (hX : zGf A R M h h1) (hA : ∀ k, ¬ A a k) (hr : ∀ k, ¬ R a k) (hb : ∀ k, ¬ A b k) (hS : zStr h a b w) : zStr h1 a b w := by
  obtain ⟨a1, a2, a3, a4, a5, a6, a7⟩ := hS
  exact ⟨Nat.lt_of_lt_of_le a1 hX.1, Nat.lt_of_lt_of_le a2 hX.1, (hX.k a1).trans a3, (hX.r a1 (hr 0)).trans a4, (hX.i a1 (hA 1)).trans a5, (hX.k a2).trans a6, fun i x hx => (hX.i a2 (hb i)).trans (a7 i x hx)⟩
theorem zGf.kon (hX : zGf A R M h h1) (hn : 318 ≤ xm_n h) (hA : ∀ a k, a < 160 → ¬ A a k) (hr : ∀ a k, a < 160 → ¬ R a k) (hK : zKon L xs h) : zKon L xs h1 := by
  intro a ha
  obtain ⟨a1, a2⟩ := hK a ha
  exact ⟨(hX.k (by omega)).trans a1, fun j => ⟨(hX.i (by omega) (hA a j ha)).trans (a2 j).1, (hX.r (by omega) (hr a j ha)).trans (a2 j).2⟩⟩
theorem zGf.shape (hX : zGf A R M h h1) (hS : xS ρ δ h) (hR : ∀ a k, R a k → xRD a k = none) (i1 : xIsR ρ') (i2 : xIsR δ') (r1 : xm_r h1 182 0 = some ρ') (r2 : xm_r h1 161 3 = some δ') : xS ρ' δ' h1 := by
  obtain ⟨⟨a1, a2, a3⟩, b1, b2, b3, b4⟩ := hS
  refine ⟨⟨Nat.le_trans a1 hX.1, fun i h1 h2 => (hX.k (by omega)).trans (a2 i h1 h2), fun a k b hb => ?_⟩, i1, i2, r1, r2⟩
  have hlt : a < 318 := by
    rcases Nat.lt_or_ge a 318 with h1 | h1
    · exact h1
    · exfalso
      unfold xRD at hb
      have e9 : ([] :: xRDl).getD (a - 159) [] = [] := by
        rw [List.getD_eq_getElem?_getD, List.getElem?_eq_none (by rw [List.length_cons, xRDl_len]; omega)]
        rfl
      rw [e9] at hb
      simp at hb
  exact (hX.r (by omega) (fun z => by rw [hR a k z] at hb; cases hb)).trans (a3 a k b hb)
theorem zGR_no {a k : Nat} (hδ : δ = 164 ∨ δ = 183) (z : zGR δ a k) : xRD a k = none := by
  obtain ⟨z1, z2, z3, z4⟩ := z
  subst z3
  rcases xRD_d ⟨a - δ - 3, by omega⟩ with h | h
  · dsimp only at h
    omega
  · dsimp only at h
    rcases hδ with rfl | rfl
    · rw [show 164 + 3 + (a - 164 - 3) = a by omega] at h
      exact h.1
    · rw [show 183 + 3 + (a - 183 - 3) = a by omega] at h
      exact h.2
theorem zGf.out (hX : zGf A R M h h1) (hn : 318 ≤ xm_n h) (hA : ∀ a k, a = 300 ∨ a = bo ∨ a = 315 ∨ (a = 302 ∧ k = 30) → ¬ A a k) (hR : ¬ R 300 0) (hO : zOut bo no cap h) : zOut bo no cap h1 := by
  obtain ⟨a1, a2, a3, a4, a5, a6, a7, a8, a9, a10, a11, a12⟩ := hO
  refine ⟨a1, a2, a3, Nat.lt_of_lt_of_le a4 hX.1, a5, (hX.r (by omega) hR).trans a6, (hX.k a4).trans a7, (hX.i (by omega) (hA _ _ (by omega))).trans a8, (hX.i (by omega) (hA _ _ (by omega))).trans a9, (hX.i (by omega) (hA _ _ (by omega))).trans a10, fun i hi => ?_, fun i hi => by rw [hX.i a4 (hA _ _ (by omega))]; exact a12 i hi⟩
  rw [hX.i a4 (hA _ _ (by omega)), hX.i (a := 315) (by omega) (hA _ _ (by omega))]
  exact a11 i hi
end Mf
/-! load: a text that is refused -/
section Ldf
variable {N ρ δ nc nt nf na n nv ne la nb bo no cap L x : Nat} {xs : zV} {h hc' hr' : xm_H} {y : Int64} {u v : Int32}
def zAF (δ a k : Nat) : Prop := a = 161 ∨ (a = 162 ∧ 1 ≤ k) ∨ (δ ≤ a ∧ a ≤ δ + 17) ∨ (a = 302 ∧ (k = 4 ∨ (6 ≤ k ∧ k ≤ 17) ∨ k = 23)) ∨ a = 307
def zMF (a k : Nat) : Prop := a = 316 ∨ (a = 302 ∧ k = 16) ∨ a = 309 ∨ a = 310
theorem zld_bad (hI : zInv ρ δ nc nt nf na n nv ne la nb bo no cap L xs h) (hE : zEnd L xs δ (xm_si h 162 1 0) (zK0 x (xm_sl hc' 316 0 y)) hc' hr') : zPo L xs h (xm_si (xm_si hr' 302 7 (xm_i hr' 302 14)) 302 8 (xm_i hr' 302 15)) := by
  have hn := hI.n
  obtain ⟨e1, e2, e3, e4, e5, e6⟩ := hE
  obtain ⟨i1, i2, i3, i4, i5, i6, i7, i8⟩ := hI
  have hδ : δ = 164 ∨ δ = 183 := i1.2.2.1
  have hρ : ρ = 164 ∨ ρ = 183 := i1.2.1
  have hnc := i4.2.1.1
  have hbo := i8.2.2.2.2.1
  have FA : zF (fun a k => a = 162 ∧ k = 1) h (xm_si h 162 1 0) := zF.si ⟨rfl, rfl⟩
  have FG : zX (fun _ _ => False) hc' (xm_sl hc' 316 0 y) := zX.out y
  have FK : zF (fun a k => a = 302 ∧ (k = 4 ∨ k = 6 ∨ k = 9)) (xm_sl hc' 316 0 y) (zK0 x (xm_sl hc' 316 0 y)) := ((zF.si (by omega)).st (by omega)).st (by omega)
  have K6 : xm_i (zK0 x (xm_sl hc' 316 0 y)) 302 6 = 0 := by unfold zK0; rw [xi_eq]
  generalize zK0 x (xm_sl hc' 316 0 y) = k0 at e1 e3 FK K6
  have FH : zF (fun a k => a = 302 ∧ (k = 7 ∨ k = 8)) hr' (xm_si (xm_si hr' 302 7 (xm_i hr' 302 14)) 302 8 (xm_i hr' 302 15)) := (zF.si (by omega)).st (by omega)
  have H7 : xm_i (xm_si (xm_si hr' 302 7 (xm_i hr' 302 14)) 302 8 (xm_i hr' 302 15)) 302 7 = xm_i hr' 302 14 := by rw [xi_nk (by decide), xi_eq]
  have H8 : xm_i (xm_si (xm_si hr' 302 7 (xm_i hr' 302 14)) 302 8 (xm_i hr' 302 15)) 302 8 = xm_i hr' 302 15 := xi_eq
  generalize xm_si (xm_si hr' 302 7 (xm_i hr' 302 14)) 302 8 (xm_i hr' 302 15) = hm at FH H7 H8
  have m1 : zGf (zAF δ) (zGR δ) zMF h (xm_si h 162 1 0) := (FA.fm (M := fun _ _ => False)).mf.mono (R := fun _ _ => False) (fun a k z => by unfold zAF; omega) (fun a k z => z.elim) (fun a k z => z.elim)
  have m2 : zGf (zAF δ) (zGR δ) zMF (xm_si h 162 1 0) hc' := e2.mf.mono (fun a k z => by unfold zGA at z; unfold zAF; omega) (fun a k z => z) (fun a k z => by unfold zMF; omega)
  have m3 : zGf (zAF δ) (zGR δ) zMF hc' (xm_sl hc' 316 0 y) := (FG.xr (R := fun _ _ => False)).mf.mono (fun a k z => z.elim) (fun a k z => z.elim) (fun a k z => by unfold zMF; omega)
  have m4 : zGf (zAF δ) (zGR δ) zMF (xm_sl hc' 316 0 y) k0 := (FK.fm (M := fun _ _ => False)).mf.mono (R := fun _ _ => False) (fun a k z => by unfold zAF; omega) (fun a k z => z.elim) (fun a k z => z.elim)
  have m5 : zGf (zAF δ) (zGR δ) zMF k0 hr' := (e3.mf (R := fun _ _ => False)).mono (fun a k z => by unfold zHA at z; unfold zAF; omega) (fun a k z => z.elim) (fun a k z => by unfold zHM at z; unfold zMF; omega)
  have m6 : zGf (zAF δ) (zGR δ) zMF hr' hm := (FH.fm (M := fun _ _ => False)).mf.mono (R := fun _ _ => False) (fun a k z => by unfold zAF; omega) (fun a k z => z.elim) (fun a k z => z.elim)
  have m : zGf (zAF δ) (zGR δ) zMF h hm := m1.tr (m2.tr (m3.tr (m4.tr (m5.tr m6))))
  have hX := m.x
  have nA : 318 ≤ xm_n (xm_si h 162 1 0) := hn
  have nc' : 318 ≤ xm_n hc' := Nat.le_trans nA e2.1
  have c161 : ∀ k, xm_i hm 161 k = xm_i hc' 161 k := fun k => by rw [FH.i (by omega), e3.i (fun z => by unfold zHA at z; omega), FK.i (by omega)]; rfl
  refine ⟨⟨ρ, δ, nc, nt, nf, na, n, nv, ne, la, 0, bo, no, cap, ?_, i2, ?_, ?_, ?_, ?_, ?_, ?_⟩, ?_, ?_⟩
  · exact m.shape i1 (fun a k z => zGR_no hδ z) i1.2.1 i1.2.2.1 ((m.r (by omega) (fun z => by unfold zGR at z; omega)).trans i1.2.2.2.1) ((m.r (by omega) (fun z => by unfold zGR at z; omega)).trans i1.2.2.2.2)
  · exact m.kon hn (fun a k z1 z => by unfold zAF at z; omega) (fun a k z1 z => by unfold zGR at z; omega) i3
  · obtain ⟨a1, a2, a3, a4, a5, a6, a7, a8, a9, a10⟩ := i4
    have hM : zMk ρ nc nt nf na n nv ne la (zHf h hm) := by
      have eT : xm_i (zHf h hm) 308 = xm_i h 308 := hX.row (by omega) (fun k z => by unfold zAF at z; omega)
      have eH : xm_i (zHf h hm) 305 = xm_i h 305 := hX.row (by omega) (fun k z => by unfold zAF at z; omega)
      have eS : xm_i (zHf h hm) 303 = xm_i h 303 := hX.row (by omega) (fun k z => by unfold zAF at z; omega)
      refine ⟨a1, by rw [eT]; exact a2, by rw [eT]; exact zRT.fx a1 hX hn (fun a k z1 z2 z => by unfold zAF at z; omega) a2.1 a3, ?_, a5, a6, (hX.i (by omega) (fun z => by unfold zAF at z; omega)).trans a7, (hX.i (by omega) (fun z => by unfold zAF at z; omega)).trans a8, (hX.i (by omega) (fun z => by unfold zAF at z; omega)).trans a9, fun j hj => ?_⟩
      · rw [eT, eS]
        exact zBlk.fx hX hn (by omega) (fun a k z1 z2 z => by unfold zAF at z; omega) (fun a k z1 z2 z3 z => by unfold zAF at z; omega) (fun a k z1 z2 z3 z => by unfold zAF at z; omega) (fun k c z1 z2 z => by unfold zAF at z; omega) a4
      · obtain ⟨nj, vj, Sj, b1, b2, b3, b4, b6, b5⟩ := a10 j hj
        refine ⟨nj, vj, Sj, b1, b2, ?_, ?_, by rw [eH]; exact b6, ?_⟩
        · rw [eH]
          exact b3
        · rw [eS]
          exact b4
        · rw [eT]
          exact zBlk.fx hX hn (by omega) (fun a k z1 z2 z => by unfold zAF at z; omega) (fun a k z1 z2 z3 z => by unfold zAF at z; omega) (fun a k z1 z2 z3 z => by unfold zAF at z; omega) (fun k c z1 z2 z => by unfold zAF at z; omega) b5
    exact hM
  · obtain ⟨a1, a2, a3, a4⟩ := i5
    refine ⟨by omega, ?_, ?_, fun i hi => ?_⟩
    · rw [FH.i (by omega), e3.i (fun z => by unfold zHA at z; omega), FK.i (by omega)]
      show xm_i hc' 162 1 = nI 0
      rw [e2.i (by omega) (fun z => by unfold zGA at z; omega), xi_eq]
      rfl
    · rw [FH.i (by omega), e3.i (fun z => by unfold zHA at z; omega), K6]
      rfl
    · rw [m.i (by omega) (fun z => by unfold zAF at z; omega), m.i (a := 306) (by omega) (fun z => by unfold zAF at z; omega)]
      exact a4 i hi
  · exact ⟨by rw [c161, H7]; exact e4.1, by rw [c161, H8]; exact e4.2⟩
  · intro c hc
    obtain ⟨a, b, w, b1, b2, b3, b4, b5, b6, b7⟩ := i7 c hc
    exact ⟨a, b, w, (m.r (by omega) (fun z => by unfold zGR at z; omega)).trans b1, b2, b3, b4, m.str (fun k z => by unfold zAF at z; omega) (fun k z => by unfold zGR at z; omega) (fun k z => by unfold zAF at z; omega) b5, b6, (m.l (by omega) (fun z => by unfold zMF at z; omega)).trans b7⟩
  · exact m.out hn (fun a k z z2 => by unfold zAF at z2; omega) (fun z => by unfold zGR at z; omega) i8
  · rw [FH.n, e3.n, FK.n]
    show xm_n hc' ≤ _
    have : xm_n (xm_si h 162 1 0) = xm_n h := rfl
    omega
  · rw [FH.sz, e3.sz, FK.sz]
    show xm_sz hc' ≤ _
    have : xm_sz (xm_si h 162 1 0) = xm_sz h := rfl
    omega
end Ldf
