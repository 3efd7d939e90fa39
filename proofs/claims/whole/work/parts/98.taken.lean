/-! load: a text that is taken -/
def zAO (δ a k : Nat) : Prop := zAF δ a k ∨ (201 ≤ a ∧ a ≤ 208) ∨ (a = 234 ∧ k = 2) ∨ a = 308 ∨ a = 303 ∨ (a = 302 ∧ k = 3)
def zRO' (δ a k : Nat) : Prop := zGR δ a k ∨ (a = 182 ∧ k = 0) ∨ (a = 161 ∧ k = 3)
def zMO (a k : Nat) : Prop := zMF a k ∨ a = 311
section Ldo
variable {N ρ δ nc0 nt0 nf0 na0 nc nt nf na n nv ne la nb bo no cap L x : Nat} {xs : zV} {W V : Nat → List Nat} {h hb hc' hr' : xm_H} {y : Int64} {T : zV}
theorem zdiv0 (h1 : zB 1 999 (T 0)) : (0 : Int32) = 0 - 0 / T 0 * T 0 := by
  obtain ⟨q, q1, q2, q3⟩ := h1
  rw [q3]
  have e : (0 : Int32) / nI q = nI 0 := (pk_div (a := 0) (d := q) (by omega) (by omega) (by omega)).trans (by rw [Nat.zero_div])
  rw [e, pk_mul, Nat.zero_mul]
  rfl
theorem zld_ok (hN : 3000 ≤ N) (hI : zInv ρ δ nc0 nt0 nf0 na0 n nv ne la nb bo no cap L xs h) (hB : f_X7_begin N δ (xm_sr hc' 182 0 (some δ)) = some ((), hb)) (hE : zEq hc' hr') (hV : zV0 L xs δ (xm_si h 162 1 0) (zK0 x (xm_sl (xm_si (xm_sr hb 161 3 (some ρ)) 234 2 0) 316 0 y)) nc nt nf na W V (nc + nt) hc' hr') : ∃ hm, f_X11_takeTerms N (xm_si (xm_si hr' 302 7 (xm_i hr' 302 14)) 302 8 (xm_i hr' 302 15)) = some ((), hm) ∧ xm_i hm 308 14 = nI nc ∧ zPo L xs h hm ∧ xm_i hm 302 4 = 0 ∧ xm_l hm 316 0 = y := by
  have hn := hI.n
  have h14 := hV.k14
  have ncl := hV.ncl
  obtain ⟨e1, e2, e3, ⟨w1, w2, w3, w4, w5, w6, w7, w8, w9⟩, e5, e6⟩ := hV
  obtain ⟨i1, i2, i3, i4, i5, i6, i7, i8⟩ := hI
  have hδ : δ = 164 ∨ δ = 183 := i1.2.2.1
  have hρ : ρ = 164 ∨ ρ = 183 := i1.2.1
  have hbo := i8.2.2.2.2.1
  have hnc := w1.1
  have hnt := w1.2.1
  -- the class's part
  obtain ⟨hb', b1, b2, b3, b4, b5, b6, b7, b8, b9, b10⟩ := zc_open (N := N) (nc := nc) (nt := nt) (h := xm_sr hc' 182 0 (some δ)) (by omega) hδ hnt hnc (w2.2.2.2.1.trans w1.2.2.2.2.2.2.1) (w2.2.2.2.2.1.trans w1.2.2.2.2.2.1)
  have hbb : hb' = hb := by
    rw [hB] at b1
    cases b1
    rfl
  subst hbb
  have FA : zF (fun a k => a = 162 ∧ k = 1) h (xm_si h 162 1 0) := zF.si ⟨rfl, rfl⟩
  have X1 : zXr (fun _ _ => False) (fun a k => a = 182 ∧ k = 0) hc' (xm_sr hc' 182 0 (some δ)) := zXr.rf.sr ⟨rfl, rfl⟩
  have X2 : zXr (fun _ _ => False) (fun a k => a = 161 ∧ k = 3) hb' (xm_sr hb' 161 3 (some ρ)) := zXr.rf.sr ⟨rfl, rfl⟩
  have F3 : zF (fun a k => a = 234 ∧ k = 2) (xm_sr hb' 161 3 (some ρ)) (xm_si (xm_sr hb' 161 3 (some ρ)) 234 2 0) := zF.si ⟨rfl, rfl⟩
  have f234 : xm_i (xm_si (xm_sr hb' 161 3 (some ρ)) 234 2 0) 234 2 = 0 := xi_eq
  have f182 : xm_r (xm_si (xm_sr hb' 161 3 (some ρ)) 234 2 0) 182 0 = some δ := by
    show (if (182 : Nat) = 161 ∧ 0 = 3 then some ρ else xm_r hb' 182 0) = some δ
    rw [if_neg (by omega), b2.r]
    exact zr_eq
  have f161 : xm_r (xm_si (xm_sr hb' 161 3 (some ρ)) 234 2 0) 161 3 = some ρ := zr_eq
  have hcx : ∀ a k, ¬ (201 ≤ a ∧ a ≤ 208) → a ≠ 234 → xm_i (xm_si (xm_sr hb' 161 3 (some ρ)) 234 2 0) a k = xm_i hc' a k := fun a k h1 h2 => by
    rw [F3.i (by omega)]
    show xm_i hb' a k = _
    rw [b2.i h1]
    rfl
  have hbx : ∀ a k, a ≠ 234 → xm_i (xm_si (xm_sr hb' 161 3 (some ρ)) 234 2 0) a k = xm_i hb' a k := fun a k h2 => by
    rw [F3.i (by omega)]
    rfl
  have frr : ∀ a k, ¬ (a = 182 ∧ k = 0) → ¬ (a = 161 ∧ k = 3) → xm_r (xm_si (xm_sr hb' 161 3 (some ρ)) 234 2 0) a k = xm_r hc' a k := fun a k h1 h2 => by
    show (if a = 161 ∧ k = 3 then some ρ else xm_r hb' a k) = _
    rw [if_neg h2, b2.r]
    exact if_neg h1
  have nf' : xm_n (xm_si (xm_sr hb' 161 3 (some ρ)) 234 2 0) = xm_n hc' := b2.n
  have sf' : xm_sz (xm_si (xm_sr hb' 161 3 (some ρ)) 234 2 0) = xm_sz hc' := b2.sz
  have M3 : zGf (zAO δ) (zRO' δ) zMO hc' (xm_si (xm_sr hb' 161 3 (some ρ)) 234 2 0) := (X1.mf.mono (fun a k z => z.elim) (fun a k z => by unfold zRO'; omega) (fun a k z => by unfold zMO zMF; omega)).tr (((b2.fm (M := fun _ _ => False)).mf.mono (R := fun _ _ => False) (fun a k z => by unfold zAO; omega) (fun a k z => z.elim) (fun a k z => z.elim)).tr ((X2.mf.mono (fun a k z => z.elim) (fun a k z => by unfold zRO'; omega) (fun a k z => by unfold zMO zMF; omega)).tr ((F3.fm (M := fun _ _ => False)).mf.mono (R := fun _ _ => False) (fun a k z => by unfold zAO; omega) (fun a k z => z.elim) (fun a k z => z.elim))))
  generalize xm_si (xm_sr hb' 161 3 (some ρ)) 234 2 0 = hf at e1 e3 f234 f182 f161 frr hcx hbx nf' sf' M3
  have FG : zX (fun _ _ => False) hf (xm_sl hf 316 0 y) := zX.out y
  have GL : xm_l (xm_sl hf 316 0 y) 316 0 = y := xl_eq
  have FK : zF (fun a k => a = 302 ∧ (k = 4 ∨ k = 6 ∨ k = 9)) (xm_sl hf 316 0 y) (zK0 x (xm_sl hf 316 0 y)) := ((zF.si (by omega)).st (by omega)).st (by omega)
  have K6 : xm_i (zK0 x (xm_sl hf 316 0 y)) 302 6 = 0 := by unfold zK0; rw [xi_eq]
  have K4 : xm_i (zK0 x (xm_sl hf 316 0 y)) 302 4 = 0 := by unfold zK0; rw [xi_nk (by decide), xi_nk (by decide), xi_eq]
  generalize zK0 x (xm_sl hf 316 0 y) = k0 at e1 e3 FK K6 K4
  have FH : zF (fun a k => a = 302 ∧ (k = 7 ∨ k = 8)) hr' (xm_si (xm_si hr' 302 7 (xm_i hr' 302 14)) 302 8 (xm_i hr' 302 15)) := (zF.si (by omega)).st (by omega)
  have H7 : xm_i (xm_si (xm_si hr' 302 7 (xm_i hr' 302 14)) 302 8 (xm_i hr' 302 15)) 302 7 = xm_i hr' 302 14 := by rw [xi_nk (by decide), xi_eq]
  have H8 : xm_i (xm_si (xm_si hr' 302 7 (xm_i hr' 302 14)) 302 8 (xm_i hr' 302 15)) 302 8 = xm_i hr' 302 15 := xi_eq
  generalize xm_si (xm_si hr' 302 7 (xm_i hr' 302 14)) 302 8 (xm_i hr' 302 15) = hr2 at FH H7 H8 ⊢
  obtain ⟨hm, t1, t2, t3, t4, t5, t6, t7⟩ := zs_take (N := N) (h := hr2) hN
  have tT : ∀ j, j < 72 → xm_i hm 308 j = xm_i hr' 307 j := fun j hj => by rw [t3 j hj, FH.i (by omega)]
  have m1 : zGf (zAO δ) (zRO' δ) zMO h (xm_si h 162 1 0) := (FA.fm (M := fun _ _ => False)).mf.mono (R := fun _ _ => False) (fun a k z => by unfold zAO zAF; omega) (fun a k z => z.elim) (fun a k z => z.elim)
  have m2 : zGf (zAO δ) (zRO' δ) zMO (xm_si h 162 1 0) hc' := e2.mf.mono (fun a k z => by unfold zGA at z; unfold zAO zAF; omega) (fun a k z => Or.inl z) (fun a k z => by unfold zMO zMF; omega)
  have m3 : zGf (zAO δ) (zRO' δ) zMO hf (xm_sl hf 316 0 y) := (FG.xr (R := fun _ _ => False)).mf.mono (fun a k z => z.elim) (fun a k z => z.elim) (fun a k z => by unfold zMO zMF; omega)
  have m4 : zGf (zAO δ) (zRO' δ) zMO (xm_sl hf 316 0 y) k0 := (FK.fm (M := fun _ _ => False)).mf.mono (R := fun _ _ => False) (fun a k z => by unfold zAO zAF; omega) (fun a k z => z.elim) (fun a k z => z.elim)
  have m5 : zGf (zAO δ) (zRO' δ) zMO k0 hr' := (e3.mf (R := fun _ _ => False)).mono (fun a k z => by unfold zHA at z; unfold zAO zAF; omega) (fun a k z => z.elim) (fun a k z => by unfold zHM at z; unfold zMO zMF; omega)
  have m6 : zGf (zAO δ) (zRO' δ) zMO hr' hr2 := (FH.fm (M := fun _ _ => False)).mf.mono (R := fun _ _ => False) (fun a k z => by unfold zAO zAF; omega) (fun a k z => z.elim) (fun a k z => z.elim)
  have m7 : zGf (zAO δ) (zRO' δ) zMO hr2 hm := (t2.mf (R := fun _ _ => False)).mono (fun a k z => by unfold zAO; omega) (fun a k z => z.elim) (fun a k z => Or.inr z)
  have mc : zGf (zAO δ) (zRO' δ) zMO hc' hm := M3.tr (m3.tr (m4.tr (m5.tr (m6.tr m7))))
  have m : zGf (zAO δ) (zRO' δ) zMO h hm := m1.tr (m2.tr mc)
  have nA : 318 ≤ xm_n (xm_si h 162 1 0) := hn
  -- what the reference leaves of the class's cells
  have rf : ∀ a k, a ≠ 302 → a ≠ 303 → a ≠ 307 → a ≠ 308 → xm_i hm a k = xm_i hf a k := fun a k h1 h2 h3 h4 => by
    rw [t2.i (by omega), FH.i (by omega), e3.i (fun z => by unfold zHA at z; omega), FK.i (by omega)]
    rfl
  have cc : ∀ a k, a < 201 → xm_i hm a k = xm_i hc' a k := fun a k ha => by rw [rf a k (by omega) (by omega) (by omega) (by omega), hcx a k (by omega) (by omega)]
  have cb : ∀ a k, 201 ≤ a → a ≤ 208 → xm_i hm a k = xm_i hb' a k := fun a k h1 h2 => by rw [rf a k (by omega) (by omega) (by omega) (by omega), hbx a k (by omega)]
  have rr : ∀ a k, xm_r hm a k = xm_r hf a k := fun a k => by
    rw [t2.r, FH.r, e3.r, FK.r]
    rfl
  obtain ⟨c1, c2, c3, c4, c5⟩ := t5
  obtain ⟨a1, a2, a3, a4, a5, a6, a7, a8, a9, a10⟩ := i4
  have WT : zWT nc nt nf na (xm_i hm 308) := w1.cg (fun j hj _ => tT j (by omega))
  refine ⟨hm, t1, WT.2.2.2.2.2.1, ⟨⟨δ, ρ, nc, nt, nf, na, 0, 0, 0, la, 0, bo, no, cap, ?_, fun z => i2 z.symm, ?_, ?_, ?_, ?_, ?_, ?_⟩, ?_, ?_⟩, ?_, ?_⟩
  · refine m.shape i1 (fun a k z => ?_) i1.2.2.1 i1.2.1 (by rw [rr]; exact f182) (by rw [rr]; exact f161)
    rcases z with z | z | z
    · exact zGR_no hδ z
    · rw [z.1, z.2]
      exact xRD_s.1
    · rw [z.1, z.2]
      exact xRD_s.2
  · exact m.kon hn (fun a k z1 z => by unfold zAO zAF at z; omega) (fun a k z1 z => by unfold zRO' zGR at z; omega) i3
  · refine ⟨i1.2.2.1, WT, ?_, ⟨⟨by omega, by omega, ?_, ?_, ?_, fun c hc => ?_, fun t ht => ?_, fun k hk => by omega⟩, fun k hk => by omega, by omega, ?_, ?_, ?_, fun k hk => by omega, fun k hk => by omega⟩, by omega, a6, t7, ?_, ?_, fun j hj => by omega⟩
    · obtain ⟨r1, r2, r3, r4, r5, r6, r7⟩ := w2
      refine ⟨by rw [cc _ _ (by omega), tT _ (by omega)]; exact r1, by rw [cc _ _ (by omega), tT _ (by omega)]; exact r2, by rw [cc _ _ (by omega), tT _ (by omega)]; exact r3, by rw [cc _ _ (by omega), tT _ (by omega)]; exact r4, by rw [cc _ _ (by omega), tT _ (by omega)]; exact r5, fun j hj => by rw [cc _ _ (by omega), tT _ (by have := w1.2.2.2.1; omega)]; exact r6 j hj, fun c hc => ?_⟩
      obtain ⟨q1, q2, q3, mm, q4, q5, q6⟩ := r7 c hc
      exact ⟨by rw [cc _ _ (by omega), tT _ (by omega)]; exact q1, by rw [cc _ _ (by omega), tT _ (by omega)]; exact q2, by rw [cc _ _ (by omega), tT _ (by omega)]; exact q3, mm, q4, by rw [cc _ _ (by omega)]; exact q5, fun w hw => (q6 w hw).trans (zAp_cg (fun j hj => tT _ (by have := w1.2.2.2.2.1; omega))).symm⟩
    · rw [c3]
      exact ⟨0, by omega, by omega, rfl⟩
    · rw [c4]
      rfl
    · rw [c5]
      rfl
    · obtain ⟨q1, q2, q3, q4, q5, q6⟩ := w7 c hc
      obtain ⟨s1, s2, s3, s4⟩ := c1 c (by omega)
      obtain ⟨s5, s6⟩ := c2 c (by omega)
      rw [s1, s2, s3, s4, s5, s6, tT _ (by omega), tT _ (by omega), tT _ (by omega)]
      obtain ⟨bu, u1, u2, u3⟩ := q5
      exact ⟨q4, ⟨bu, u1, u2, u3⟩, ⟨0, bu, rfl, u3, by omega, u2⟩, ⟨100, by omega, by omega, rfl⟩, q6, ⟨0, by omega, by omega, rfl⟩⟩
    · rw [t6 t (by omega), tT _ (by omega)]
      exact (w6 t ht).2
    · rw [c3]
      exact ⟨0, by omega, by omega, rfl⟩
    · refine ⟨?_, ?_, ?_, ?_, fun t ht => ?_, fun c hc => ?_⟩
      · rw [cb _ _ (by omega) (by omega), b3, c3]
      · rw [cb _ _ (by omega) (by omega), b4, c3]
        exact zdiv0 WT.2.2.2.2.2.2.2.2.2.1
      · rw [cb _ _ (by omega) (by omega), b5, c4]
      · rw [cb _ _ (by omega) (by omega), b6, c5]
      · rw [cb _ _ (by omega) (by omega), b7 t ht, t6 t (by omega), tT _ (by omega)]
        exact (w6 t ht).1
      · obtain ⟨q1, q2, q3, q4, q5, q6⟩ := w7 c hc
        obtain ⟨s1, s2, s3, s4⟩ := c1 c (by omega)
        obtain ⟨s5, s6⟩ := c2 c (by omega)
        obtain ⟨v1, v2, v3, v4⟩ := b8 c hc
        obtain ⟨v5, v6⟩ := b9 c (by omega)
        rw [s1, s2, s3, s4, s5, s6, tT _ (by omega), tT _ (by omega), tT _ (by omega), cb (201 + 2) _ (by omega) (by omega), cb (201 + 3) _ (by omega) (by omega), cb (201 + 4) _ (by omega) (by omega), cb (201 + 5) _ (by omega) (by omega), cb (201 + 6) _ (by omega) (by omega), cb (201 + 7) _ (by omega) (by omega)]
        exact ⟨v1.trans q1, v2.trans q2, v3.trans q3, v5, v6, v4⟩
    · intro i hi
      rw [cb (201 + 7) _ (by omega) (by omega)]
      by_cases hin : i < nc
      · exact Or.inl (b8 i hin).2.2.2
      · have e : xm_i hb' 208 i = xm_i h 208 i := by
          rw [b10 i (by omega) hi]
          show xm_i hc' 208 i = _
          rw [e2.i (by omega) (fun z => by unfold zGA at z; omega)]
          exact xi_ne (by decide)
        show xm_i hb' 208 i = 0 ∨ xm_i hb' 208 i = 1
        rw [e]
        exact a4.2.2.2.2.2.1 i hi
    · rw [rf _ _ (by omega) (by omega) (by omega) (by omega), f234]
      rfl
    · exact (m.i (by omega) (fun z => by unfold zAO zAF at z; omega)).trans a9
  · obtain ⟨p1, p2, p3, p4⟩ := i5
    refine ⟨by omega, ?_, ?_, fun i hi => ?_⟩
    · rw [cc _ _ (by omega), e2.i (by omega) (fun z => by unfold zGA at z; omega), xi_eq]
      rfl
    · rw [t2.i (by omega), FH.i (by omega), e3.i (fun z => by unfold zHA at z; omega), K6]
      rfl
    · rw [m.i (by omega) (fun z => by unfold zAO zAF at z; omega), m.i (a := 306) (by omega) (fun z => by unfold zAO zAF at z; omega)]
      exact p4 i hi
  · exact ⟨by rw [cc _ _ (by omega), t2.i (by omega), H7]; exact hE.1, by rw [cc _ _ (by omega), t2.i (by omega), H8]; exact hE.2⟩
  · intro c hc
    obtain ⟨q1, ⟨a, a2', q2, q3, q4, q5⟩, q6, q7⟩ := w5 c hc
    have hbn := i8.2.2.2.1
    have hA : xm_n (xm_si h 162 1 0) = xm_n h := rfl
    refine ⟨a, a2', V c, ((rr _ _).trans (frr _ _ (by omega) (by omega))).trans q2, by omega, by omega, by omega, mc.str (fun k z => by unfold zAO zAF at z; omega) (fun k z => by unfold zRO' zGR at z; omega) (fun k z => by unfold zAO zAF at z; omega) q5, q1, ?_⟩
    rw [t4 c (by omega), FH.l]
    exact q6
  · exact m.out hn (fun a k z z2 => by unfold zAO zAF at z2; omega) (fun z => by unfold zRO' zGR at z; omega) i8
  · rw [t2.n, FH.n, e3.n, FK.n]
    show xm_n hf ≤ _
    have : xm_n (xm_si h 162 1 0) = xm_n h := rfl
    omega
  · rw [t2.sz, FH.sz, e3.sz, FK.sz]
    show xm_sz hf ≤ _
    have : xm_sz (xm_si h 162 1 0) = xm_sz h := rfl
    omega
  · rw [t2.i (by omega), FH.i (by omega), e3.i (fun z => by unfold zHA at z; omega), K4]
  · rw [t2.l (by omega), FH.l, e3.l (fun z => by unfold zHM at z; omega), FK.l]
    exact GL
end Ldo
