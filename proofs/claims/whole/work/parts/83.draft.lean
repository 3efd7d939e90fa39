/-! load: the draft on both sides -/
def zXr (A R : Nat → Nat → Prop) (h h' : xm_H) : Prop := xm_n h ≤ xm_n h' ∧ ∀ a, a < xm_n h → xm_k h' a = xm_k h a ∧ (∀ k, ¬ R a k → xm_r h' a k = xm_r h a k) ∧ (∀ k, ¬ A a k → xm_i h' a k = xm_i h a k) ∧ ∀ k, ¬ (a = 316 ∨ (a = 302 ∧ k = 16)) → xm_l h' a k = xm_l h a k
section Xr
variable {A B R S : Nat → Nat → Prop} {h h1 h2 : xm_H} {a j : Nat}
theorem zXr.rf : zXr A R h h := ⟨Nat.le_refl _, fun _ _ => ⟨rfl, fun _ _ => rfl, fun _ _ => rfl, fun _ _ => rfl⟩⟩
theorem zXr.tr (e1 : zXr A R h h1) (e2 : zXr A R h1 h2) : zXr A R h h2 := ⟨Nat.le_trans e1.1 e2.1, fun a ha => by
  obtain ⟨a1, a2, a3, a4⟩ := e1.2 a ha
  obtain ⟨b1, b2, b3, b4⟩ := e2.2 a (Nat.lt_of_lt_of_le ha e1.1)
  exact ⟨b1.trans a1, fun k n => (b2 k n).trans (a2 k n), fun k n => (b3 k n).trans (a3 k n), fun k n => (b4 k n).trans (a4 k n)⟩⟩
theorem zXr.mono (e1 : zXr A R h h1) (hA : ∀ a k, A a k → B a k) (hR : ∀ a k, R a k → S a k) : zXr B S h h1 := ⟨e1.1, fun a ha => ⟨(e1.2 a ha).1, fun k n => (e1.2 a ha).2.1 k (fun z => n (hR a k z)), fun k n => (e1.2 a ha).2.2.1 k (fun z => n (hA a k z)), (e1.2 a ha).2.2.2⟩⟩
theorem zX.xr (e : zX A h h1) : zXr A R h h1 := ⟨e.1, fun a ha => ⟨(e.2 a ha).1, fun k _ => (e.2 a ha).2.1 k, (e.2 a ha).2.2.1, (e.2 a ha).2.2.2⟩⟩
theorem zF.xr (e : zF A h h1) : zXr A R h h1 := e.x.xr
theorem zXr.sr {v : Option Nat} (e1 : zXr A R h h1) (hR : R a j) : zXr A R h (xm_sr h1 a j v) := e1.tr ⟨Nat.le_refl _, fun b _ => ⟨rfl, fun i n => if_neg (fun z => n (by rw [z.1, z.2]; exact hR)), fun _ _ => rfl, fun _ _ => rfl⟩⟩
theorem zXr.si {v : Int32} (e1 : zXr A R h h1) (hA : A a j) : zXr A R h (xm_si h1 a j v) := e1.tr (zF.si hA).xr
theorem zXr.i (e : zXr A R h h1) {a k : Nat} (ha : a < xm_n h) (n : ¬ A a k) : xm_i h1 a k = xm_i h a k := (e.2 a ha).2.2.1 k n
theorem zXr.k (e : zXr A R h h1) {a : Nat} (ha : a < xm_n h) : xm_k h1 a = xm_k h a := (e.2 a ha).1
theorem zXr.r (e : zXr A R h h1) {a k : Nat} (ha : a < xm_n h) (n : ¬ R a k) : xm_r h1 a k = xm_r h a k := (e.2 a ha).2.1 k n
theorem zXr.l (e : zXr A R h h1) {a k : Nat} (ha : a < xm_n h) (n : ¬ (a = 316 ∨ (a = 302 ∧ k = 16))) : xm_l h1 a k = xm_l h a k := (e.2 a ha).2.2.2 k n
theorem zStr.fxr {a b : Nat} {w : List Nat} (hX : zXr A R h h1) (hA : ∀ k, ¬ A a k) (hr : ∀ k, ¬ R a k) (hb : ∀ k, ¬ A b k) (hS : zStr h a b w) : zStr h1 a b w := by
  obtain ⟨a1, a2, a3, a4, a5, a6, a7⟩ := hS
  exact ⟨Nat.lt_of_lt_of_le a1 hX.1, Nat.lt_of_lt_of_le a2 hX.1, (hX.k a1).trans a3, (hX.r a1 (hr 0)).trans a4, (hX.i a1 (hA 1)).trans a5, (hX.k a2).trans a6, fun i x hx => (hX.i a2 (hb i)).trans (a7 i x hx)⟩
theorem zKon.fxr {L : Nat} {xs : zV} (hX : zXr A R h h1) (hn : 318 ≤ xm_n h) (hA : ∀ a k, a < 160 → ¬ A a k) (hr : ∀ a k, a < 160 → ¬ R a k) (hK : zKon L xs h) : zKon L xs h1 := by
  intro a ha
  obtain ⟨a1, a2⟩ := hK a ha
  exact ⟨(hX.k (by omega)).trans a1, fun j => ⟨(hX.i (by omega) (hA a j ha)).trans (a2 j).1, (hX.r (by omega) (hr a j ha)).trans (a2 j).2⟩⟩
theorem zKon.fm {L : Nat} {xs : zV} {M : Nat → Nat → Prop} (hX : zFm A M h h1) (hA : ∀ a k, a < 160 → ¬ A a k) (hK : zKon L xs h) : zKon L xs h1 := by
  intro a ha
  obtain ⟨a1, a2⟩ := hK a ha
  exact ⟨(hX.k a).trans a1, fun j => ⟨(hX.i (hA a j ha)).trans (a2 j).1, (hX.r a j).trans (a2 j).2⟩⟩
end Xr
def zGA (δ a k : Nat) : Prop := a = 161 ∨ (a = 162 ∧ 2 ≤ k) ∨ (δ ≤ a ∧ a ≤ δ + 17)
def zGR (δ a k : Nat) : Prop := δ + 3 ≤ a ∧ a ≤ δ + 17 ∧ k = 0 ∧ a ≠ δ + 9
def zHA (a k : Nat) : Prop := (a = 302 ∧ ((9 ≤ k ∧ k ≤ 17) ∨ k = 23)) ∨ a = 307
def zHM (a k : Nat) : Prop := (a = 302 ∧ k = 16) ∨ a = 309 ∨ a = 310
/-- the draft -/
def zDr (n0 δ nc nt nf na : Nat) (W V : Nat → List Nat) (hc hr : xm_H) : Prop := zWT nc nt nf na (xm_i hr 307) ∧ zRT δ nc nf na (xm_i hr 307) hc ∧ xm_i hc δ 8 = nI na ∧ zNs n0 (δ + 3) 309 nt W hc hr ∧ zNs n0 (δ + 10) 310 nc V hc hr ∧ (∀ t, t < nt → xm_i hc (δ + 3 + t) 1 = xm_i hr 307 (8 + t) ∧ zB 0 999 (xm_i hr 307 (8 + t))) ∧ (∀ c, c < nc → xm_i hc (δ + 10 + c) 1 = xm_i hr 307 (15 + c) ∧ xm_i hc (δ + 10 + c) 2 = xm_i hr 307 (23 + c) ∧ xm_i hc (δ + 10 + c) 6 = xm_i hr 307 (55 + c) ∧ zB 1 999 (xm_i hr 307 (15 + c)) ∧ zB 1 9999 (xm_i hr 307 (23 + c)) ∧ zB 0 2 (xm_i hr 307 (55 + c))) ∧ (∀ c, nc ≤ c → c < 8 → xm_i hr 307 (55 + c) = 0) ∧ ∀ k, k < na → ∃ p q, p < nc ∧ q < nc ∧ p ≠ q ∧ xm_i hr 307 (64 + k) = nI (2 ^ p ||| 2 ^ q)
def zE0 (L : Nat) (xs : zV) (δ : Nat) (h0 k0 : xm_H) : Prop := (δ = 164 ∨ δ = 183) ∧ 318 ≤ xm_n h0 ∧ 318 ≤ xm_n k0 ∧ zKon L xs h0 ∧ zKon L xs k0 ∧ xm_k k0 309 = (104, 6) ∧ xm_k k0 310 = (104, 8)
def zV0 (L : Nat) (xs : zV) (δ : Nat) (h0 k0 : xm_H) (nc nt nf na : Nat) (W V : Nat → List Nat) (k : Nat) (hc hr : xm_H) : Prop := zE0 L xs δ h0 k0 ∧ zXr (zGA δ) (zGR δ) h0 hc ∧ zFm zHA zHM k0 hr ∧ zDr (xm_n h0) δ nc nt nf na W V hc hr ∧ xm_n hc ≤ xm_n h0 + 4 * k ∧ xm_sz hc ≤ xm_sz h0 + 60 * k
def zA8 (δ nc nt a k : Nat) : Prop := a = 161 ∨ (a = 162 ∧ 3 ≤ k) ∨ (nc < 8 ∧ a = δ + 10 + nc) ∨ (nt < 6 ∧ a = δ + 3 + nt)
def zR8 (δ nc nt a k : Nat) : Prop := k = 0 ∧ ((nc < 8 ∧ a = δ + 10 + nc) ∨ (nt < 6 ∧ a = δ + 3 + nt))
def zB8 (nc nt a k : Nat) : Prop := (a = 302 ∧ ((10 ≤ k ∧ k ≤ 17) ∨ k = 23)) ∨ (a = 307 ∧ ((nc < 8 ∧ (k = 15 + nc ∨ k = 23 + nc ∨ k = 31 + nc ∨ k = 39 + nc ∨ k = 47 + nc)) ∨ (nt < 6 ∧ k = 8 + nt)))
def zM8 (nc nt a k : Nat) : Prop := (a = 302 ∧ k = 16) ∨ (nt < 6 ∧ a = 309 ∧ k = nt) ∨ (nc < 8 ∧ a = 310 ∧ k = nc)
section Dr
variable {L δ nc nt nf na k k' q r m : Nat} {xs : zV} {W V : Nat → List Nat} {A B R M : Nat → Nat → Prop} {T T' : zV} {h0 k0 hc hr hc' hr' : xm_H}
theorem zV0.ncl (hV : zV0 L xs δ h0 k0 nc nt nf na W V k hc hr) : 318 ≤ xm_n hc := Nat.le_trans hV.1.2.1 hV.2.1.1
theorem zV0.kc (hV : zV0 L xs δ h0 k0 nc nt nf na W V k hc hr) : zKon L xs hc := by
  obtain ⟨⟨d1, d2, d3, d4, d5, d6, d7⟩, v2, v3, v4⟩ := hV
  exact d4.fxr v2 d2 (fun a k z1 z => by unfold zGA at z; omega) (fun a k z1 z => by unfold zGR at z; omega)
theorem zV0.nrf (hV : zV0 L xs δ h0 k0 nc nt nf na W V k hc hr) : 318 ≤ xm_n hr := by
  rw [hV.2.2.1.n]
  exact hV.1.2.2.1
theorem zV0.kr (hV : zV0 L xs δ h0 k0 nc nt nf na W V k hc hr) : zKon L xs hr := hV.1.2.2.2.2.1.fm hV.2.2.1 (fun a k z1 z => by unfold zHA at z; omega)
theorem zWT.cg (e0 : ∀ j, j < 64 → ¬ ((nc < 8 ∧ (j = 15 + nc ∨ j = 23 + nc ∨ j = 31 + nc ∨ j = 39 + nc ∨ j = 47 + nc)) ∨ (nt < 6 ∧ j = 8 + nt)) → T' j = T j) (hT : zWT nc nt nf na T) : zWT nc nt nf na T' := by
  obtain ⟨a1, a2, a3, a4, a5, a6, a7, a8, a9, a10, a11, a12, a13⟩ := hT
  refine ⟨a1, a2, a3, a4, a5, (e0 14 (by omega) (by omega)).trans a6, (e0 7 (by omega) (by omega)).trans a7, (e0 2 (by omega) (by omega)).trans a8, (e0 63 (by omega) (by omega)).trans a9, by rw [e0 0 (by omega) (by omega)]; exact a10, by rw [e0 1 (by omega) (by omega)]; exact a11, fun j hj => by rw [e0 (3 + j) (by omega) (by omega)]; exact a12 j hj, fun c hc => ?_⟩
  rw [e0 (31 + c) (by omega) (by omega), e0 (39 + c) (by omega) (by omega), e0 (47 + c) (by omega) (by omega)]
  exact a13 c hc
theorem zAp_cg {c w : Nat} (e0 : ∀ j, j < na → T' (64 + j) = T (64 + j)) : zAp T' na c w = zAp T na c w := by
  unfold zAp
  rw [Bool.eq_iff_iff, List.any_eq_true, List.any_eq_true]
  constructor
  · rintro ⟨k, k1, k2⟩
    rw [e0 k (List.mem_range.mp k1)] at k2
    exact ⟨k, k1, k2⟩
  · rintro ⟨k, k1, k2⟩
    rw [← e0 k (List.mem_range.mp k1)] at k2
    exact ⟨k, k1, k2⟩
theorem zNs.out {n0 : Nat} (h318 : 318 ≤ n0) (hX : zXr A R hc hc') (hq : q + m ≤ xm_n hc) (hA : ∀ a k, 318 ≤ a → ¬ A a k) (hR : ∀ a k, 318 ≤ a → ¬ R a k) (hR2 : ∀ t, t < m → ¬ R (q + t) 0) (hl : ∀ t, t < m → xm_l hr' r t = xm_l hr r t) (hN : zNs n0 q r m W hc hr) : zNs n0 q r m W hc' hr' := fun t ht => by
  obtain ⟨n1, ⟨a, a2, n2, n3, n4, n5⟩, n6⟩ := hN t ht
  exact ⟨n1, ⟨a, a2, (hX.r (by omega) (hR2 t ht)).trans n2, n3, n4, n5.fxr hX (fun k => hA a k (by omega)) (fun k => hR a k (by omega)) (fun k => hA a2 k (by omega))⟩, (hl t ht).trans n6.1, n6.2⟩
theorem zV0.out (hX : zXr A R hc hc') (hF : zFm B M hr hr') (hA : ∀ a k, A a k → zA8 δ nc nt a k) (hR : ∀ a k, R a k → zR8 δ nc nt a k) (hB : ∀ a k, B a k → zB8 nc nt a k) (hM : ∀ a k, M a k → zM8 nc nt a k) (hn : xm_n hc' ≤ xm_n h0 + 4 * k') (hs : xm_sz hc' ≤ xm_sz h0 + 60 * k') (hV : zV0 L xs δ h0 k0 nc nt nf na W V k hc hr) : zV0 L xs δ h0 k0 nc nt nf na W V k' hc' hr' := by
  have hn1 := hV.ncl
  obtain ⟨v1, v2, v3, ⟨w1, w2, w3, w4, w5, w6, w7, w8, w9⟩, v5, v6⟩ := hV
  have hδ := v1.1
  have X8 := hX.mono hA hR
  have F8 := hF.mono hB hM
  have h1 := w1.1
  have h2 := w1.2.1
  have h3 := w1.2.2.2.1
  have h4 := w1.2.2.2.2.1
  have eD : ∀ j, ¬ ((nc < 8 ∧ (j = 15 + nc ∨ j = 23 + nc ∨ j = 31 + nc ∨ j = 39 + nc ∨ j = 47 + nc)) ∨ (nt < 6 ∧ j = 8 + nt)) → xm_i hr' 307 j = xm_i hr 307 j := fun j hj => F8.i (fun z => by unfold zB8 at z; omega)
  have eC : ∀ a j, (a = δ ∨ a = δ + 1 ∨ (δ + 3 ≤ a ∧ a < δ + 3 + nt) ∨ (δ + 10 ≤ a ∧ a < δ + 10 + nc)) → xm_i hc' a j = xm_i hc a j := fun a j ha => X8.i (by omega) (fun z => by unfold zA8 at z; omega)
  refine ⟨v1, v2.tr (X8.mono (fun a k z => by unfold zA8 at z; unfold zGA; omega) (fun a k z => by unfold zR8 at z; unfold zGR; omega)), v3.tr (F8.mono (fun a k z => by unfold zB8 at z; unfold zHA; omega) (fun a k z => by unfold zM8 at z; unfold zHM; omega)), ⟨w1.cg (fun j _ hj => eD j hj), ?_, ?_, ?_, ?_, ?_, ?_, ?_, ?_⟩, hn, hs⟩
  · obtain ⟨a1, a2, a3, a4, a5, a6, a7⟩ := w2
    refine ⟨?_, ?_, ?_, ?_, ?_, fun j hj => ?_, fun c hc => ?_⟩
    · rw [eC _ _ (by omega), eD _ (by omega)]
      exact a1
    · rw [eC _ _ (by omega), eD _ (by omega)]
      exact a2
    · rw [eC _ _ (by omega), eD _ (by omega)]
      exact a3
    · rw [eC _ _ (by omega), eD _ (by omega)]
      exact a4
    · rw [eC _ _ (by omega), eD _ (by omega)]
      exact a5
    · rw [eC _ _ (by omega), eD _ (by omega)]
      exact a6 j hj
    · obtain ⟨b1, b2, b3, mm, b4, b5, b6⟩ := a7 c hc
      refine ⟨?_, ?_, ?_, mm, b4, ?_, fun w hw => ?_⟩
      · rw [eC _ _ (by omega), eD _ (by omega)]
        exact b1
      · rw [eC _ _ (by omega), eD _ (by omega)]
        exact b2
      · rw [eC _ _ (by omega), eD _ (by omega)]
        exact b3
      · rw [eC _ _ (by omega)]
        exact b5
      · rw [b6 w hw]
        exact (zAp_cg (fun j hj => eD _ (by omega))).symm
  · rw [eC _ _ (by omega)]
    exact w3
  · exact w4.out v1.2.1 X8 (by omega) (fun a k z1 z => by unfold zA8 at z; omega) (fun a k z1 z => by unfold zR8 at z; omega) (fun t ht z => by unfold zR8 at z; omega) (fun t ht => F8.l (fun z => by unfold zM8 at z; omega))
  · exact w5.out v1.2.1 X8 (by omega) (fun a k z1 z => by unfold zA8 at z; omega) (fun a k z1 z => by unfold zR8 at z; omega) (fun t ht z => by unfold zR8 at z; omega) (fun t ht => F8.l (fun z => by unfold zM8 at z; omega))
  · intro t ht
    rw [eC _ _ (by omega), eD _ (by omega)]
    exact w6 t ht
  · intro c hc
    rw [eC _ _ (by omega), eC _ _ (by omega), eC _ _ (by omega), eD _ (by omega), eD _ (by omega), eD _ (by omega)]
    exact w7 c hc
  · intro c h1 h2
    rw [eD _ (by omega)]
    exact w8 c h1 h2
  · intro j hj
    rw [eD _ (by omega)]
    exact w9 j hj
end Dr
