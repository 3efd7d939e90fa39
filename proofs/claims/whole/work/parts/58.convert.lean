/-! convert -/
def zCv (S : zV) (u v : Int32) (n nv : Nat) : zV := zU (zU (zU (zU (zU S (2057 + 4 * nv) (S 0)) (2057 + 4 * nv + 1) u) (2057 + 4 * nv + 2) v) (2057 + 4 * nv + 3) (nI n)) 2 (nI (nv + 1))
def zAv (nv a k : Nat) : Prop := (229 ≤ a ∧ a ≤ 232 ∧ k = nv) ∨ (a = 233 ∧ 8 * nv ≤ k ∧ k < 8 * nv + 8)
section Cv
variable {N ρ δ nc nt nf na n nv ne la nb bo no cap L c q : Nat} {xs : zV} {S T : zV} {h g h1 h2 hc hm : xm_H} {u v x y z w : Int32}
theorem zCv_ot {i : Nat} (h1 : i ≠ 2) (h2 : i < 2057 + 4 * nv ∨ 2057 + 4 * nv + 3 < i) : zCv S u v n nv i = S i := by
  unfold zCv
  rw [zU_ne h1, zU_ne (by omega), zU_ne (by omega), zU_ne (by omega), zU_ne (by omega)]
theorem zCv_2 : zCv S u v n nv 2 = nI (nv + 1) := zU_eq
theorem zCv_at : zCv S u v n nv (2057 + 4 * nv) = S 0 ∧ zCv S u v n nv (2057 + 4 * nv + 1) = u ∧ zCv S u v n nv (2057 + 4 * nv + 2) = v ∧ zCv S u v n nv (2057 + 4 * nv + 3) = nI n := by
  unfold zCv
  refine ⟨?_, ?_, ?_, ?_⟩
  · rw [zU_ne (by omega), zU_ne (by omega), zU_ne (by omega), zU_ne (by omega), zU_eq]
  · rw [zU_ne (by omega), zU_ne (by omega), zU_ne (by omega), zU_eq]
  · rw [zU_ne (by omega), zU_ne (by omega), zU_eq]
  · rw [zU_ne (by omega), zU_eq]
theorem zFst_0 {k : Nat} : ∀ {m : Nat}, zct (zLd S T k) m = 0 → zFst S T k m = -1 := by
  intro m hm
  cases m with
  | zero => rfl
  | succ m =>
    have hs : zct (zLd S T k) (m + 1) = zct (zLd S T k) m + (if zLd S T k m = true then 1 else 0) := rfl
    rw [hs] at hm
    unfold zFst
    rw [if_pos (by omega), if_neg]
    intro z
    rw [if_pos z] at hm
    omega
theorem zx8 (k c : Nat) : nI k * 8 + nI c = nI (8 * k + c) := by
  rw [show (8 : Int32) = nI 8 from rfl, pk_mul, nI_add, Nat.mul_comm]
theorem zc_begin (hN : 1000 ≤ N) (hnv : nv < 40) : ∃ g, f_X1_begin N (nI nv) v h = some ((), g) ∧ zF (zAv nv) h g ∧ xm_i g 229 nv = v ∧ xm_i g 230 nv = -1 ∧ xm_i g 231 nv = -1 ∧ xm_i g 232 nv = 0 ∧ ∀ c, c < 8 → xm_i g 233 (8 * nv + c) = 0 := by
  unfold f_X1_begin
  rw [if_pos (zb_in hnv (by decide))]
  simp only [xl, nI_clamp (show nv < 2 ^ 31 by omega)]
  have F0 : zF (zAv nv) h (xm_si (xm_si (xm_si (xm_si h 229 nv v) 230 nv (-1)) 231 nv (-1)) 232 nv 0) := (((zF.si (Or.inl ⟨by omega, by omega, rfl⟩)).st (Or.inl ⟨by omega, by omega, rfl⟩)).st (Or.inl ⟨by omega, by omega, rfl⟩)).st (Or.inl ⟨by omega, by omega, rfl⟩)
  have v0 : xm_i (xm_si (xm_si (xm_si (xm_si h 229 nv v) 230 nv (-1)) 231 nv (-1)) 232 nv 0) 229 nv = v := by rw [xi_ne (by decide), xi_ne (by decide), xi_ne (by decide), xi_eq]
  have v1 : xm_i (xm_si (xm_si (xm_si (xm_si h 229 nv v) 230 nv (-1)) 231 nv (-1)) 232 nv 0) 230 nv = -1 := by rw [xi_ne (by decide), xi_ne (by decide), xi_eq]
  have v2 : xm_i (xm_si (xm_si (xm_si (xm_si h 229 nv v) 230 nv (-1)) 231 nv (-1)) 232 nv 0) 231 nv = -1 := by rw [xi_ne (by decide), xi_eq]
  have v3 : xm_i (xm_si (xm_si (xm_si (xm_si h 229 nv v) 230 nv (-1)) 231 nv (-1)) 232 nv 0) 232 nv = 0 := xi_eq
  generalize xm_si (xm_si (xm_si (xm_si h 229 nv v) 230 nv (-1)) 231 nv (-1)) 232 nv 0 = h4 at *
  obtain ⟨m2, ⟨c2, g⟩, ⟨e1, e2, e3⟩, hE⟩ := zlpO (N := N) (F := fun n s => f_X1_begin_30 N (nI nv) n s.1 s.2) (I := fun i s => s.1 = nI i ∧ zF (fun a k => a = 233 ∧ 8 * nv ≤ k ∧ k < 8 * nv + 8) h4 s.2 ∧ ∀ c, c < i → xm_i s.2 233 (8 * nv + c) = 0) (L := 8) (s := (0, h4)) (by omega) ⟨rfl, zF.rf, fun c hc => by omega⟩ (by
    rintro m2 i ⟨c2, g⟩ hi ⟨e1, e2, e3⟩
    dsimp only at e1 e2 e3 ⊢
    subst e1
    refine ⟨(nI (i + 1), xm_si g 233 (8 * nv + i) 0), ⟨rfl, e2.st ⟨rfl, by omega, by omega⟩, fun c hc => ?_⟩, ?_⟩
    · dsimp only
      by_cases hci : c = i
      · subst hci
        rw [xi_eq]
      · rw [xi_nk (by omega)]
        exact e3 c (by omega)
    · show f_X1_begin_30B N (nI nv) (f_X1_begin_30 N (nI nv) m2) (nI i) g = _
      unfold f_X1_begin_30B
      rw [if_pos (show nI i < 8 from nI_lt (b := 8) hi (by omega)), zx8, if_pos (zb_in (by omega) (by decide)), nI_clamp (by omega), nI_1]
      rfl)
  dsimp only at e1 e2 e3
  subst e1
  refine ⟨g, hE.trans ?_, F0.tr (e2.mono (fun a k z => Or.inr z)), by rw [e2.i (by omega)]; exact v0, by rw [e2.i (by omega)]; exact v1, by rw [e2.i (by omega)]; exact v2, by rw [e2.i (by omega)]; exact v3, e3⟩
  show f_X1_begin_30B N (nI nv) (f_X1_begin_30 N (nI nv) m2) (nI 8) g = _
  unfold f_X1_begin_30B
  rw [if_neg (show ¬ nI 8 < 8 from zlt_irr (nI 8))]
theorem zc_share (hnv : nv < 40) (hc : c < 8) (hq : q ≤ 400) (e : xm_i h 232 nv = nI q) : ∃ g, f_X1_share (nI nv) (nI c) h = some ((), g) ∧ zF (zAv nv) h g ∧ xm_i g 229 nv = xm_i h 229 nv ∧ xm_i g 230 nv = (if q = 0 then nI c else xm_i h 230 nv) ∧ xm_i g 231 nv = nI c ∧ xm_i g 232 nv = nI (q + 1) ∧ ∀ d, xm_i g 233 (8 * nv + d) = if d = c then xm_i h 233 (8 * nv + c) + 1 else xm_i h 233 (8 * nv + d) := by
  have fin : ∀ k : xm_H, xm_i k 232 nv = nI q → ∃ g, g = xm_si (xm_si (xm_si k 231 nv (nI c)) 232 nv (xm_i (xm_si k 231 nv (nI c)) 232 nv + 1)) 233 (8 * nv + c) (xm_i (xm_si (xm_si k 231 nv (nI c)) 232 nv (xm_i (xm_si k 231 nv (nI c)) 232 nv + 1)) 233 (8 * nv + c) + 1) ∧ zF (zAv nv) k g ∧ xm_i g 229 nv = xm_i k 229 nv ∧ xm_i g 230 nv = xm_i k 230 nv ∧ xm_i g 231 nv = nI c ∧ xm_i g 232 nv = nI (q + 1) ∧ ∀ d, xm_i g 233 (8 * nv + d) = if d = c then xm_i k 233 (8 * nv + c) + 1 else xm_i k 233 (8 * nv + d) := by
    intro k hk
    refine ⟨_, rfl, ((zF.si (Or.inl ⟨by omega, by omega, rfl⟩)).st (Or.inl ⟨by omega, by omega, rfl⟩)).st (Or.inr ⟨rfl, by omega, by omega⟩), ?_, ?_, ?_, ?_, fun d => ?_⟩
    · rw [xi_ne (by decide), xi_ne (by decide), xi_ne (by decide)]
    · rw [xi_ne (by decide), xi_ne (by decide), xi_ne (by decide)]
    · rw [xi_ne (by decide), xi_ne (by decide), xi_eq]
    · rw [xi_ne (by decide), xi_eq, xi_ne (by decide), hk, nI_1]
    · by_cases hd : d = c
      · subst hd
        rw [if_pos rfl, xi_eq, xi_ne (by decide), xi_ne (by decide)]
      · rw [if_neg hd, xi_nk (by omega), xi_ne (by decide), xi_ne (by decide)]
  have hix : xin (nI (8 * nv + c)) 320 := zb_in (by omega) (by decide)
  unfold f_X1_share
  rw [if_pos (zb_in hnv (by decide)), zx8]
  simp only [nI_clamp (show nv < 2 ^ 31 by omega), nI_clamp (show 8 * nv + c < 2 ^ 31 by omega), e, xl, if_pos hix]
  by_cases h0 : q = 0
  · rw [if_pos (show nI q = 0 by rw [h0]; rfl), if_pos h0]
    obtain ⟨g, g1, g2, g3, g4, g5, g6, g7⟩ := fin (xm_si h 230 nv (nI c)) (by rw [xi_ne (by decide)]; exact e)
    refine ⟨g, by rw [g1], (zF.si (Or.inl ⟨by omega, by omega, rfl⟩)).tr g2, by rw [g3, xi_ne (by decide)], by rw [g4, xi_eq], g5, g6, fun d => ?_⟩
    rw [g7, xi_ne (by decide), xi_ne (by decide)]
  · rw [if_neg (nI_ne0 (by omega) (by omega)), if_neg h0]
    obtain ⟨g, g1, g2, g3, g4, g5, g6, g7⟩ := fin h e
    exact ⟨g, by rw [g1], g2, g3, g4, g5, g6, g7⟩
/-- a row of a conversion, so far -/
def zRw (nc nv m : Nat) (S T : zV) (h : xm_H) : Prop := xm_i h 229 nv = S (2057 + 4 * nv + 2) ∧ xm_i h 230 nv = zFst S T nv m ∧ xm_i h 231 nv = zLst S T nv m ∧ xm_i h 232 nv = nI (zct (zLd S T nv) m) ∧ ∀ c, c < nc → xm_i h 233 (8 * nv + c) = nI (zct (fun i => zLd S T nv i && decide (S (57 + 5 * i + 2) = nI c)) m)
theorem zc_attribute (hN : 1000 ≤ N) (hnv : nv < 40) (hn : n ≤ 400) (hnc : nc ≤ 8) (hWI : ∀ k, k < n → ∃ c, c < nc ∧ S (57 + 5 * k + 2) = nI c) (e2 : xm_i h 201 2 = nI n) (e0 : xm_i h 201 0 - xm_i h ρ 1 = S (2057 + 4 * nv) - T 1) (eu : S (2057 + 4 * nv + 1) = u) (hRI : zRI n S h) (h0 : zRw nc nv 0 S T h) : ∃ g, f_X10_attribute N ρ (nI nv) u h = some ((), g) ∧ zF (zAv nv) h g ∧ zRw nc nv n S T g := by
  unfold f_X10_attribute
  rw [e0]
  obtain ⟨m2, ⟨c2, g⟩, ⟨e1, e2', e3⟩, hE⟩ := zlpO (N := N) (F := fun n s => f_X10_attribute_34 N ρ (nI nv) u (S (2057 + 4 * nv) - T 1) n s.1 s.2) (I := fun i s => s.1 = nI i ∧ zF (zAv nv) h s.2 ∧ zRw nc nv i S T s.2) (L := n) (s := (0, h)) (by omega) ⟨rfl, zF.rf, h0⟩ (by
    rintro m2 i ⟨c2, g⟩ hi ⟨e1, e4, e3⟩
    dsimp only at e1 e4 e3 ⊢
    subst e1
    obtain ⟨b1, b2, b3, _, _⟩ := hRI i hi
    obtain ⟨ci, hci, w2⟩ := hWI i hi
    have q2 : xm_i g 201 2 = nI n := by rw [e4.i (by unfold zAv; omega)]; exact e2
    have q210 : xm_i g 210 i = S (57 + 5 * i) := by rw [e4.i (by unfold zAv; omega)]; exact b1
    have q211 : xm_i g 211 i = S (57 + 5 * i + 1) := by rw [e4.i (by unfold zAv; omega)]; exact b2
    have q212 : xm_i g 212 i = nI ci := by rw [e4.i (by unfold zAv; omega), b3, w2]
    obtain ⟨r1, r2, r3, r4, r5⟩ := e3
    have hcl := zct_le (zLd S T nv) i
    have hs : zct (zLd S T nv) (i + 1) = zct (zLd S T nv) i + (if zLd S T nv i = true then 1 else 0) := rfl
    have hs2 : ∀ c, zct (fun i => zLd S T nv i && decide (S (57 + 5 * i + 2) = nI c)) (i + 1) = zct (fun i => zLd S T nv i && decide (S (57 + 5 * i + 2) = nI c)) i + (if (zLd S T nv i && decide (S (57 + 5 * i + 2) = nI c)) = true then 1 else 0) := fun c => rfl
    by_cases hl : zLd S T nv i = true
    · have hl2 := of_decide_eq_true hl
      rw [eu] at hl2
      obtain ⟨g', k1, k2, k3, k4, k5, k6, k7⟩ := zc_share (h := g) hnv (show ci < 8 by omega) (show zct (zLd S T nv) i ≤ 400 by omega) r4
      refine ⟨(nI (i + 1), g'), ⟨rfl, e4.tr k2, k3.trans r1, ?_, ?_, ?_, fun c hc => ?_⟩, ?_⟩
      · dsimp only
        unfold zFst
        rw [k4, if_pos hl, w2, r2]
      · dsimp only
        unfold zLst
        rw [k5, if_pos hl, w2]
      · dsimp only
        rw [k6, hs, if_pos hl]
      · dsimp only
        rw [k7, hs2, hl, w2, Bool.true_and]
        by_cases hcc : c = ci
        · subst hcc
          rw [if_pos rfl, if_pos (decide_eq_true rfl), r5 c hc, nI_1]
        · rw [if_neg hcc, if_neg (fun z => hcc ((nI_eq (by omega) (by omega)).mp (of_decide_eq_true z)).symm), r5 c hc]
          rfl
      · show f_X10_attribute_34B N ρ (nI nv) u (S (2057 + 4 * nv) - T 1) (f_X10_attribute_34 N ρ (nI nv) u (S (2057 + 4 * nv) - T 1) m2) (nI i) g = _
        unfold f_X10_attribute_34B
        rw [q2, if_pos (nI_lt hi (by omega)), if_pos (zb_in (by omega) (by decide)), nI_clamp (by omega), q211, if_pos hl2.1, q210, if_neg hl2.2, q212, k1, xb_some, nI_1]
    · have hl3 : zLd S T nv i = false := by simpa using hl
      refine ⟨(nI (i + 1), g), ⟨rfl, e4, r1, ?_, ?_, ?_, fun c hc => ?_⟩, ?_⟩
      · dsimp only
        unfold zFst
        rw [r2]
        by_cases hz : zct (zLd S T nv) i = 0
        · rw [if_pos hz, if_neg hl, zFst_0 hz]
        · rw [if_neg hz]
      · dsimp only
        unfold zLst
        rw [r3, if_neg hl]
      · dsimp only
        rw [r4, hs, if_neg hl]
        rfl
      · dsimp only
        rw [r5 c hc, hs2, hl3, Bool.false_and, if_neg (by decide)]
        rfl
      · show f_X10_attribute_34B N ρ (nI nv) u (S (2057 + 4 * nv) - T 1) (f_X10_attribute_34 N ρ (nI nv) u (S (2057 + 4 * nv) - T 1) m2) (nI i) g = _
        unfold f_X10_attribute_34B
        rw [q2, if_pos (nI_lt hi (by omega)), if_pos (zb_in (by omega) (by decide)), nI_clamp (by omega), q211, q210, nI_1]
        by_cases hu : S (57 + 5 * i + 1) = u
        · rw [if_pos hu]
          by_cases ht : S (57 + 5 * i) < S (2057 + 4 * nv) - T 1
          · rw [if_pos ht]
          · exact absurd (decide_eq_true ⟨by rw [eu]; exact hu, ht⟩) hl
        · rw [if_neg hu])
  dsimp only at e1 e2' e3
  subst e1
  refine ⟨g, hE.trans ?_, e2', e3⟩
  show f_X10_attribute_34B N ρ (nI nv) u (S (2057 + 4 * nv) - T 1) (f_X10_attribute_34 N ρ (nI nv) u (S (2057 + 4 * nv) - T 1) m2) (nI n) g = _
  unfold f_X10_attribute_34B
  rw [show xm_i g 201 2 = nI n by rw [e2'.i (by unfold zAv; omega)]; exact e2, if_neg (zlt_irr _)]
end Cv
