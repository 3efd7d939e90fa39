/-! the class's cells against the reference's rows; its ranking -/
theorem zb_and (a b : Nat) : nI a &&& nI b = nI (a &&& b) := Int32.toBitVec_inj.mp (by
  show BitVec.ofNat 32 a &&& BitVec.ofNat 32 b = BitVec.ofNat 32 (a &&& b)
  rw [BitVec.ofNat_and])
theorem zb_or (a b : Nat) : nI a ||| nI b = nI (a ||| b) := Int32.toBitVec_inj.mp (by
  show BitVec.ofNat 32 a ||| BitVec.ofNat 32 b = BitVec.ofNat 32 (a ||| b)
  rw [BitVec.ofNat_or])
theorem zb_1sh : ∀ c : Nat, c < 16 → (1 : Int32) <<< (nI c &&& 31) = nI (2 ^ c) := by decide
theorem zb_sub {a b c : Nat} (ha : a < 2 ^ 29) (hb : b < 2 ^ 29) (hc : c < 2 ^ 29) : nI a - nI b < nI c ↔ nI a - nI c < nI b := by
  rw [Int32.lt_iff_toInt_lt, Int32.lt_iff_toInt_lt, pk_sub_toInt (by omega) (by omega), pk_sub_toInt (by omega) (by omega), nI_toInt (by omega), nI_toInt (by omega)]
  omega
/-- a standing at v -/
def zRS (v nc nt : Nat) (S T : zV) (h : xm_H) : Prop := xm_i h v 0 = S 0 ∧ xm_i h v 1 = S 0 - S 0 / T 0 * T 0 ∧ xm_i h v 2 = S 1 ∧ xm_i h v 3 = S 2 ∧ (∀ t, t < nt → xm_i h (v + 1) t = S (51 + t)) ∧ ∀ c, c < nc → xm_i h (v + 2) c = S (3 + 6 * c) ∧ xm_i h (v + 3) c = S (3 + 6 * c + 1) ∧ xm_i h (v + 4) c = S (3 + 6 * c + 4) ∧ xm_i h (v + 5) c = S (3 + 6 * c + 2) ∧ xm_i h (v + 6) c = S (3 + 6 * c + 3) ∧ xm_i h (v + 7) c = S (3 + 6 * c + 5)
/-- the impressions -/
def zRI (n : Nat) (S : zV) (h : xm_H) : Prop := ∀ k, k < n → xm_i h 210 k = S (57 + 5 * k) ∧ xm_i h 211 k = S (57 + 5 * k + 1) ∧ xm_i h 212 k = S (57 + 5 * k + 2) ∧ xm_i h 213 k = S (57 + 5 * k + 3) ∧ xm_i h 214 k = S (57 + 5 * k + 4)
/-- the rules at ρ -/
def zRT (ρ nc nf na : Nat) (T : zV) (h : xm_H) : Prop := xm_i h ρ 0 = T 0 ∧ xm_i h ρ 1 = T 1 ∧ xm_i h ρ 3 = T 2 ∧ xm_i h ρ 5 = T 7 ∧ xm_i h ρ 7 = T 14 ∧ (∀ k, k < nf → xm_i h (ρ + 1) k = T (3 + k)) ∧ ∀ c, c < nc → xm_i h (ρ + 10 + c) 3 = T (31 + c) ∧ xm_i h (ρ + 10 + c) 4 = T (39 + c) ∧ xm_i h (ρ + 10 + c) 5 = T (47 + c) ∧ ∃ m, m < 256 ∧ xm_i h (ρ + 10 + c) 7 = nI m ∧ ∀ w, w < 8 → Nat.testBit m w = zAp T na c w
/-- terms as a text gives them -/
def zWT (nc nt nf na : Nat) (T : zV) : Prop := nc ≤ 8 ∧ nt ≤ 6 ∧ 1 ≤ nf ∧ nf ≤ 4 ∧ na ≤ 8 ∧ T 14 = nI nc ∧ T 7 = nI nt ∧ T 2 = nI nf ∧ T 63 = nI na ∧ zB 1 999 (T 0) ∧ zB 1 999 (T 1) ∧ (∀ k, k < nf → zB 1 100 (T (3 + k))) ∧ ∀ c, c < nc → zB 1 9 (T (31 + c)) ∧ zB 1 999 (T (39 + c)) ∧ (T (47 + c) = -1 ∨ ∃ t, t < nt ∧ T (47 + c) = nI t)
/-- a state: n impressions -/
def zWI (nc n : Nat) (S : zV) : Prop := ∀ k, k < n → zB 0 20000 (S (57 + 5 * k)) ∧ zB 0 15 (S (57 + 5 * k + 1)) ∧ (∃ c, c < nc ∧ S (57 + 5 * k + 2) = nI c) ∧ zB 0 3 (S (57 + 5 * k + 3)) ∧ zB 0 999 (S (57 + 5 * k + 4))
def zWC (nc : Nat) (S : zV) : Prop := ∀ c, c < nc → zB 1 999 (S (3 + 6 * c)) ∧ zB 1 9999 (S (3 + 6 * c + 1)) ∧ (∃ sp bu, S (3 + 6 * c + 2) = nI sp ∧ S (3 + 6 * c + 1) = nI bu ∧ sp ≤ bu ∧ bu ≤ 9999) ∧ zB 10 100 (S (3 + 6 * c + 3)) ∧ zB 0 2 (S (3 + 6 * c + 4)) ∧ zB 0 1 (S (3 + 6 * c + 5))
def zWS (nc nt n nv : Nat) (S : zV) : Prop := n ≤ 400 ∧ nv ≤ 40 ∧ zB 0 20000 (S 0) ∧ S 1 = nI n ∧ S 2 = nI nv ∧ zWC nc S ∧ (∀ t, t < nt → zB 0 999 (S (51 + t))) ∧ zWI nc n S
/-- all that an auction looks at -/
def zRA (ρ nc nt nf na n : Nat) (S T : zV) (h : xm_H) : Prop := xIsR ρ ∧ zRT ρ nc nf na T h ∧ zRS 201 nc nt S T h ∧ zRI n S h
def zsC (a k : Nat) : Prop := a = 215 ∨ a = 216 ∨ a = 217 ∨ a = 218 ∨ a = 219 ∨ (a = 182 ∧ (k = 6 ∨ k = 9))
theorem xIsR.lt {v : Nat} (hv : xIsR v) : v = 164 ∨ v = 183 := hv
theorem zRT.fr {A : Nat → Nat → Prop} {ρ nc nf na : Nat} {T : zV} {h h' : xm_H} (hρ : xIsR ρ) (hF : zF A h h') (hA : ∀ a k, ((164 ≤ a ∧ a ≤ 181) ∨ (183 ≤ a ∧ a ≤ 200)) → ¬ A a k) (hnc : nc ≤ 8) (hR : zRT ρ nc nf na T h) : zRT ρ nc nf na T h' := by
  have hr : ρ = 164 ∨ ρ = 183 := hρ
  obtain ⟨a1, a2, a3, a4, a5, a6, a7⟩ := hR
  have g : ∀ j k, j < 18 → xm_i h' (ρ + j) k = xm_i h (ρ + j) k := fun j k hj => hF.i (hA _ _ (by omega))
  refine ⟨(g 0 0 (by omega)).trans a1, (g 0 1 (by omega)).trans a2, (g 0 3 (by omega)).trans a3, (g 0 5 (by omega)).trans a4, (g 0 7 (by omega)).trans a5, fun k hk => (g 1 k (by omega)).trans (a6 k hk), fun c hc => ?_⟩
  obtain ⟨b1, b2, b3, m, b4, b5, b6⟩ := a7 c hc
  have g2 : ∀ k, xm_i h' (ρ + 10 + c) k = xm_i h (ρ + 10 + c) k := fun k => hF.i (hA _ _ (by omega))
  exact ⟨(g2 3).trans b1, (g2 4).trans b2, (g2 5).trans b3, m, b4, (g2 7).trans b5, b6⟩
theorem zRS.fr {A : Nat → Nat → Prop} {v nc nt : Nat} {S T : zV} {h h' : xm_H} (hF : zF A h h') (hA : ∀ a k, v ≤ a → a ≤ v + 7 → ¬ A a k) (hR : zRS v nc nt S T h) : zRS v nc nt S T h' := by
  obtain ⟨a1, a2, a3, a4, a5, a6⟩ := hR
  have g : ∀ j k, j < 8 → xm_i h' (v + j) k = xm_i h (v + j) k := fun j k hj => hF.i (hA _ _ (by omega) (by omega))
  refine ⟨(g 0 0 (by omega)).trans a1, (g 0 1 (by omega)).trans a2, (g 0 2 (by omega)).trans a3, (g 0 3 (by omega)).trans a4, fun k hk => (g 1 k (by omega)).trans (a5 k hk), fun c hc => ?_⟩
  obtain ⟨b1, b2, b3, b4, b5, b6⟩ := a6 c hc
  exact ⟨(g 2 c (by omega)).trans b1, (g 3 c (by omega)).trans b2, (g 4 c (by omega)).trans b3, (g 5 c (by omega)).trans b4, (g 6 c (by omega)).trans b5, (g 7 c (by omega)).trans b6⟩
theorem zRI.fr {A : Nat → Nat → Prop} {n : Nat} {S : zV} {h h' : xm_H} (hF : zF A h h') (hA : ∀ a k, 210 ≤ a → a ≤ 214 → ¬ A a k) (hR : zRI n S h) : zRI n S h' := by
  intro k hk
  obtain ⟨b1, b2, b3, b4, b5⟩ := hR k hk
  exact ⟨(hF.i (hA _ _ (by omega) (by omega))).trans b1, (hF.i (hA _ _ (by omega) (by omega))).trans b2, (hF.i (hA _ _ (by omega) (by omega))).trans b3, (hF.i (hA _ _ (by omega) (by omega))).trans b4, (hF.i (hA _ _ (by omega) (by omega))).trans b5⟩
theorem zRA.fr {ρ nc nt nf na n : Nat} {S T : zV} {h h' : xm_H} (hF : zF zsC h h') (hnc : nc ≤ 8) (hR : zRA ρ nc nt nf na n S T h) : zRA ρ nc nt nf na n S T h' := ⟨hR.1, zRT.fr hR.1 hF (fun a k z w => by unfold zsC at w; omega) hnc hR.2.1, zRS.fr hF (fun a k z1 z2 w => by unfold zsC at w; omega) hR.2.2.1, zRI.fr hF (fun a k z1 z2 w => by unfold zsC at w; omega) hR.2.2.2⟩
section Cls
variable {N ρ nc nt nf na n nv : Nat} {S T : zV} {h : xm_H}
theorem zc_pacedBid {c : Nat} (hR : zRA ρ nc nt nf na n S T h) (hnc : nc ≤ 8) (hc : c < nc) : f_X2_pacedBid (nI c) h = some (zEf S c, h) := by
  obtain ⟨b1, b2, b3, b4, b5, b6⟩ := hR.2.2.1.2.2.2.2.2 c hc
  unfold f_X2_pacedBid f_X2_perCent
  rw [if_pos (zb_in (by omega) (by decide)), nI_clamp (by omega), xb_some]
  have e1 : xm_i h 203 c = S (3 + 6 * c) := b1
  have e2 : xm_i h 207 c = S (3 + 6 * c + 3) := b5
  rw [e1, e2]
  rfl
theorem zc_moneyLeft {c : Nat} (hR : zRA ρ nc nt nf na n S T h) (hnc : nc ≤ 8) (hc : c < nc) : f_X2_moneyLeft (nI c) h = some (zLf S c, h) := by
  obtain ⟨b1, b2, b3, b4, b5, b6⟩ := hR.2.2.1.2.2.2.2.2 c hc
  unfold f_X2_moneyLeft
  rw [if_pos (zb_in (by omega) (by decide)), nI_clamp (by omega)]
  have e1 : xm_i h 204 c = S (3 + 6 * c + 1) := b2
  have e2 : xm_i h 206 c = S (3 + 6 * c + 2) := b4
  rw [e1, e2]
  rfl
theorem zc_planned {c : Nat} (hR : zRA ρ nc nt nf na n S T h) (hnc : nc ≤ 8) (hd : zB 1 999 (T 0)) (hc : c < nc) : f_X2_planned ρ (nI c) h = some (zPl S T c, h) := by
  obtain ⟨b1, b2, b3, b4, b5, b6⟩ := hR.2.2.1.2.2.2.2.2 c hc
  obtain ⟨d, d1, d2, d3⟩ := hd
  have e0 : xm_i h ρ 0 = T 0 := hR.2.1.1
  have e1 : xm_i h 204 c = S (3 + 6 * c + 1) := b2
  have e2 : xm_i h 201 1 = S 0 - S 0 / T 0 * T 0 := hR.2.2.1.2.1
  unfold f_X2_planned
  rw [e0, if_pos (by rw [d3]; exact nI_lt (a := 0) (by omega) (by omega)), if_pos (zb_in (by omega) (by decide)), if_pos (by rw [d3]; exact nI_ne0 (by omega) (by omega)), nI_clamp (by omega), e1, e2]
  rfl
theorem zc_reason {c t : Nat} {e fl rc : Int32} (hR : zRA ρ nc nt nf na n S T h) (hnc : nc ≤ 8) (hd : zB 1 999 (T 0)) (hp : zB 0 1 (S (3 + 6 * c + 5))) (hc : c < nc) (hrc : xm_i h 215 c = rc) : f_X2_reasonAgainst ρ (nI c) (nI t) e fl h = some (zRf S T rc c (nI t) e fl, h) := by
  obtain ⟨b1, b2, b3, b4, b5, b6⟩ := hR.2.2.1.2.2.2.2.2 c hc
  obtain ⟨t1, t2, t3, _⟩ := hR.2.1.2.2.2.2.2.2 c hc
  have e6 : xm_i h 208 c = S (3 + 6 * c + 5) := b6
  have e5 : xm_i h 205 c = S (3 + 6 * c + 4) := b3
  have e4 : xm_i h 206 c = S (3 + 6 * c + 2) := b4
  unfold f_X2_reasonAgainst zRf
  simp only [if_pos (zb_in (show c < 8 by omega) (by decide)), nI_clamp (show c < 2 ^ 31 by omega), e6, e5, e4, t1, t3, zc_moneyLeft hR hnc hc, zc_planned hR hnc hd hc, xb_some, hrc]
  obtain ⟨pp, p1, p2, p3⟩ := hp
  have hpp : (S (3 + 6 * c + 5) = 0) ↔ ¬ S (3 + 6 * c + 5) = 1 := by
    rw [p3]
    match pp, p2 with
    | 0, _ => decide
    | 1, _ => decide
  by_cases h1 : S (3 + 6 * c + 5) = 1
  · rw [if_neg (fun z => hpp.mp z h1), if_pos h1]
  rw [if_pos (hpp.mpr h1), if_neg h1]
  have fin : (if zLf S c < e then some ((3 : Int32), h) else if rc < T (31 + c) then if S (3 + 6 * c + 4) = 2 then if S (3 + 6 * c + 2) < zPl S T c then if e < fl then some ((6 : Int32), h) else some ((0 : Int32), h) else some ((5 : Int32), h) else if e < fl then some ((6 : Int32), h) else some ((0 : Int32), h) else some ((4 : Int32), h)) = some (if zLf S c < e then (3 : Int32) else if ¬ rc < T (31 + c) then 4 else if S (3 + 6 * c + 4) = 2 ∧ ¬ S (3 + 6 * c + 2) < zPl S T c then 5 else if e < fl then 6 else 0, h) := by
    by_cases h3 : zLf S c < e
    · rw [if_pos h3, if_pos h3]
    rw [if_neg h3, if_neg h3]
    by_cases h4 : rc < T (31 + c)
    · rw [if_pos h4, if_neg (not_not_intro h4)]
      by_cases h6 : e < fl
      · rw [if_pos h6, if_pos h6]
        by_cases h5 : S (3 + 6 * c + 4) = 2
        · rw [if_pos h5]
          by_cases h7 : S (3 + 6 * c + 2) < zPl S T c
          · rw [if_pos h7, if_neg (zn2 (not_not_intro h7))]
          · rw [if_neg h7, if_pos ⟨h5, h7⟩]
        · rw [if_neg h5, if_neg (zn1 h5)]
      · rw [if_neg h6, if_neg h6]
        by_cases h5 : S (3 + 6 * c + 4) = 2
        · rw [if_pos h5]
          by_cases h7 : S (3 + 6 * c + 2) < zPl S T c
          · rw [if_pos h7, if_neg (zn2 (not_not_intro h7))]
          · rw [if_neg h7, if_pos ⟨h5, h7⟩]
        · rw [if_neg h5, if_neg (zn1 h5)]
    · rw [if_neg h4, if_pos h4]
  by_cases h2 : T (47 + c) = -1
  · rw [if_pos h2, if_neg (zn1 (not_not_intro h2))]
    exact fin
  · rw [if_neg h2]
    by_cases h2b : T (47 + c) = nI t
    · rw [if_pos h2b, if_neg (zn2 (not_not_intro h2b))]
      exact fin
    · rw [if_neg h2b, if_pos ⟨h2, h2b⟩]
/-- the counts for the caps -/
theorem zc_countRecents {u : Int32} (hN : 1000 ≤ N) (hR : zRA ρ nc nt nf na n S T h) (hWT : zWT nc nt nf na T) (hWS : zWS nc nt n nv S) : ∃ h', f_X2_countRecents N ρ u h = some ((), h') ∧ zF (fun a _ => a = 215) h h' ∧ ∀ c, c < nc → xm_i h' 215 c = nI (zRc S T c u n) := by
  have hnc : nc ≤ 8 := hWT.1
  have hn : n ≤ 400 := hWS.1
  unfold f_X2_countRecents
  obtain ⟨m, ⟨c2, h1⟩, ⟨e1, e2, e3⟩, hE⟩ := zlpO (N := N) (F := fun n s => fun K => f_X2_countRecents_2 N ρ u K n s.1 s.2) (I := fun i s => s.1 = nI i ∧ zF (fun a _ => a = 215) h s.2 ∧ ∀ c, c < i → xm_i s.2 215 c = 0) (L := 8) (s := (0, h)) (by omega) ⟨rfl, zF.rf, fun c hc => by omega⟩ (by
    rintro m i ⟨c2, h1⟩ hi ⟨e1, e2, e3⟩
    dsimp only at e1 e2 e3 ⊢
    subst e1
    refine ⟨(nI (i + 1), xm_si h1 215 i 0), ⟨rfl, e2.st rfl, fun c hc => ?_⟩, ?_⟩
    · dsimp only
      by_cases hci : c = i
      · rw [hci, xi_eq]
      · rw [xi_nk hci]
        exact e3 c (by omega)
    · funext K
      show f_X2_countRecents_2B N ρ u K (f_X2_countRecents_2 N ρ u K m) (nI i) h1 = _
      unfold f_X2_countRecents_2B
      rw [if_pos (show nI i < 8 from nI_lt (b := 8) hi (by decide)), if_pos (zb_in hi (by decide)), nI_clamp (by omega), nI_1]
      rfl)
  dsimp only at e1 e2 e3
  subst e1
  have hE2 : ∀ K, f_X2_countRecents_2 N ρ u K N 0 h = K h1 := fun K => by
    refine (congrFun hE K).trans ?_
    show f_X2_countRecents_2B N ρ u K (f_X2_countRecents_2 N ρ u K m) (nI 8) h1 = _
    unfold f_X2_countRecents_2B
    rw [if_neg (show ¬ nI 8 < 8 from zlt_irr (nI 8))]
  rw [hE2]
  obtain ⟨m2, ⟨c3, h3⟩, ⟨k1, k2, k3⟩, hE3⟩ := zlpO (N := N) (F := fun n s => f_X2_countRecents_23 N ρ u n s.1 s.2) (I := fun i s => s.1 = nI i ∧ zF (fun a _ => a = 215) h s.2 ∧ ∀ c, c < nc → xm_i s.2 215 c = nI (zRc S T c u i)) (L := n) (s := (0, h1)) (by omega) ⟨rfl, e2, fun c hc => e3 c (by omega)⟩ (by
    rintro m i ⟨c2, h2⟩ hi ⟨g1, g2, g3⟩
    dsimp only at g1 g2 g3 ⊢
    subst g1
    have hR2 : zRA ρ nc nt nf na n S T h2 := hR.fr (g2.mono (fun a k z => Or.inl z)) hnc
    obtain ⟨i0, i1, i2, _, _⟩ := hR2.2.2.2 i hi
    obtain ⟨w0, w1, ⟨ci, hci, w2⟩, _, _⟩ := hWS.2.2.2.2.2.2.2 i hi
    obtain ⟨t1, t2, t3, _⟩ := hR2.2.1.2.2.2.2.2.2 ci hci
    obtain ⟨tk, k1, k2, k3⟩ := hWS.2.2.1
    obtain ⟨ti, l1, l2, l3⟩ := w0
    obtain ⟨wi, m1, m2, m3⟩ := (hWT.2.2.2.2.2.2.2.2.2.2.2.2 ci hci).2.1
    have es : xm_i h2 201 2 = nI n := hR2.2.2.1.2.2.1.trans hWS.2.2.2.1
    have ep : xm_i h2 201 0 = S 0 := hR2.2.2.1.1
    have hcond : (S 0 - S (57 + 5 * i) < T (39 + ci)) ↔ (S 0 - T (39 + ci) < S (57 + 5 * i)) := by
      rw [k3, l3, m3]
      exact zb_sub (by omega) (by omega) (by omega)
    by_cases hcn : S (57 + 5 * i + 1) = u ∧ S 0 - T (39 + ci) < S (57 + 5 * i)
    · refine ⟨(nI (i + 1), xm_si h2 215 ci (xm_i h2 215 ci + 1)), ⟨rfl, g2.st rfl, fun c hc => ?_⟩, ?_⟩
      · dsimp only
        rw [zRc_succ]
        by_cases hcc : c = ci
        · subst hcc
          rw [xi_eq, g3 c hc, if_pos (show zRp S T c u i = true from decide_eq_true ⟨hcn.1, w2, hcn.2⟩), nI_1]
        · rw [xi_nk hcc, g3 c hc, if_neg (fun z => hcc ((nI_eq (by omega) (by omega)).mp ((of_decide_eq_true z).2.1.symm.trans w2)))]
          rfl
      · show f_X2_countRecents_23B N ρ u (f_X2_countRecents_23 N ρ u m) (nI i) h2 = _
        unfold f_X2_countRecents_23B
        rw [es, if_pos (nI_lt hi (by omega)), if_pos (zb_in (by omega) (by decide))]
        simp only [nI_clamp (show i < 2 ^ 31 by omega), i1, if_pos hcn.1, i2, w2, if_pos (zb_in (show ci < 8 by omega) (by decide)), nI_clamp (show ci < 2 ^ 31 by omega), ep, i0, t2, if_pos (hcond.mpr hcn.2), nI_1]
        rfl
    · refine ⟨(nI (i + 1), h2), ⟨rfl, g2, fun c hc => ?_⟩, ?_⟩
      · dsimp only
        rw [zRc_succ, g3 c hc, if_neg]
        · rfl
        · intro z
          have z2 := of_decide_eq_true z
          have : c = ci := (nI_eq (by omega) (by omega)).mp (z2.2.1.symm.trans w2)
          subst this
          exact hcn ⟨z2.1, z2.2.2⟩
      · show f_X2_countRecents_23B N ρ u (f_X2_countRecents_23 N ρ u m) (nI i) h2 = _
        unfold f_X2_countRecents_23B
        rw [es, if_pos (nI_lt hi (by omega)), if_pos (zb_in (by omega) (by decide))]
        simp only [nI_clamp (show i < 2 ^ 31 by omega), i1, nI_1, i2, w2, if_pos (zb_in (show ci < 8 by omega) (by decide)), nI_clamp (show ci < 2 ^ 31 by omega), ep, i0, t2]
        by_cases hu : S (57 + 5 * i + 1) = u
        · rw [if_pos hu, if_neg (fun z => hcn ⟨hu, hcond.mp z⟩)]
        · rw [if_neg hu])
  dsimp only at k1 k2 k3
  subst k1
  have hR2 : zRA ρ nc nt nf na n S T h3 := hR.fr (k2.mono (fun a k z => Or.inl z)) hnc
  have es : xm_i h3 201 2 = nI n := hR2.2.2.1.2.2.1.trans hWS.2.2.2.1
  refine ⟨h3, hE3.trans ?_, k2, k3⟩
  show f_X2_countRecents_23B N ρ u (f_X2_countRecents_23 N ρ u m2) (nI n) h3 = _
  unfold f_X2_countRecents_23B
  rw [es, if_neg (zlt_irr _)]
end Cls
