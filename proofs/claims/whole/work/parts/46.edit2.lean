/-! edits: the invariant behind an edit -/
def zI (L : Nat) (xs : zV) (h : xm_H) : Prop := ∃ ρ δ nc nt nf na n nv ne la nb bo no cap, zInv ρ δ nc nt nf na n nv ne la nb bo no cap L xs h
def zPo (L : Nat) (xs : zV) (h h2 : xm_H) : Prop := zI L xs h2 ∧ xm_n h2 ≤ xm_n h + 300 ∧ xm_sz h2 ≤ xm_sz h + 6000
theorem zOp.mono {r1 : Option (Int32 × xm_H)} {r2 : xm_H → Option (Int32 × xm_H)} {P Q : xm_H → Prop} (h : zOp r1 r2 P) (hPQ : ∀ g, P g → Q g) : zOp r1 r2 Q := by
  obtain ⟨v, h1, b, h2, a1, a2, a3, a4, a5⟩ := h
  exact ⟨v, h1, b, h2, a1, a2, a3, a4, hPQ _ a5⟩
def zAn (n nv a k : Nat) : Prop := zscr a k ∨ (201 ≤ a ∧ a ≤ 208) ∨ (210 ≤ a ∧ a ≤ 214 ∧ n ≤ k) ∨ (229 ≤ a ∧ a ≤ 232 ∧ nv ≤ k) ∨ (a = 233 ∧ 8 * nv ≤ k)
def zAm (a k : Nat) : Prop := zscr a k ∨ (a = 303 ∧ k < 2217)
def zAe (n nv v a k : Nat) : Prop := zAn n nv a k ∨ a = 303 ∨ a = 305 ∨ (a = 302 ∧ k = 3) ∨ (a = 234 ∧ (k = 1 ∨ k = 2)) ∨ (v ≤ a ∧ a ≤ v + 7)
theorem zLd_cg {S S' T : zV} {k i : Nat} (h1 : S' (57 + 5 * i + 1) = S (57 + 5 * i + 1)) (h2 : S' (57 + 5 * i) = S (57 + 5 * i)) (h3 : S' (2057 + 4 * k) = S (2057 + 4 * k)) (h4 : S' (2057 + 4 * k + 1) = S (2057 + 4 * k + 1)) : zLd S' T k i = zLd S T k i := by
  unfold zLd
  rw [h1, h2, h3, h4]
theorem zLst_cg {S S' T : zV} {k : Nat} : ∀ {m : Nat}, (∀ i, i < m → zLd S' T k i = zLd S T k i ∧ S' (57 + 5 * i + 2) = S (57 + 5 * i + 2)) → zLst S' T k m = zLst S T k m := by
  intro m
  induction m with
  | zero => intro _; rfl
  | succ m ih =>
    intro h
    unfold zLst
    rw [(h m (by omega)).1, (h m (by omega)).2, ih (fun i hi => h i (by omega))]
theorem zFst_cg {S S' T : zV} {k : Nat} : ∀ {m : Nat}, (∀ i, i < m → zLd S' T k i = zLd S T k i ∧ S' (57 + 5 * i + 2) = S (57 + 5 * i + 2)) → zFst S' T k m = zFst S T k m := by
  intro m
  induction m with
  | zero => intro _; rfl
  | succ m ih =>
    intro h
    unfold zFst
    rw [(h m (by omega)).1, (h m (by omega)).2, ih (fun i hi => h i (by omega)), zct_congr (fun i hi => (h i (by omega)).1)]
theorem zRV.cg {nc nv n : Nat} {S S' T : zV} {h : xm_H} (hW : ∀ k, k < nv → zB 0 n (S (2057 + 4 * k + 3))) (hn : n ≤ 400) (h1 : ∀ k w, k < nv → w < 4 → S' (2057 + 4 * k + w) = S (2057 + 4 * k + w)) (h2 : ∀ i w, i < n → w < 5 → S' (57 + 5 * i + w) = S (57 + 5 * i + w)) (hR : zRV nc nv S T h) : zRV nc nv S' T h := by
  intro k hk
  obtain ⟨cn, b0, b1, b2, b3, b4, b5, b6⟩ := hR k hk
  obtain ⟨q, q1, q2, q3⟩ := hW k hk
  have hcn : cn = q := (nI_eq (by omega) (by omega)).mp (b1.symm.trans q3)
  have hL : ∀ i, i < cn → zLd S' T k i = zLd S T k i ∧ S' (57 + 5 * i + 2) = S (57 + 5 * i + 2) := fun i hi => ⟨zLd_cg (h2 i 1 (by omega) (by omega)) (h2 i 0 (by omega) (by omega)) (h1 k 0 hk (by omega)) (h1 k 1 hk (by omega)), h2 i 2 (by omega) (by omega)⟩
  refine ⟨cn, b0, (h1 k 3 hk (by omega)).trans b1, b2.trans (h1 k 2 hk (by omega)).symm, b3.trans (zFst_cg hL).symm, b4.trans (zLst_cg hL).symm, ?_, fun c hc => ?_⟩
  · rw [b5, zct_congr (fun i hi => (hL i hi).1)]
  · rw [b6 c hc, zct_congr (q := fun i => zLd S' T k i && decide (S' (57 + 5 * i + 2) = nI c)) (fun i hi => by rw [(hL i hi).1, (hL i hi).2])]
section Ed
variable {N ρ δ nc nt nf na n nv ne la nb bo no cap L n' nv' : Nat} {xs : zV} {S T : zV} {h h1 hc hr hm : xm_H} {x y z w : Int32}
theorem zMk_edit (hM : zMk ρ nc nt nf na n nv ne la h) (hn : 318 ≤ xm_n h) (hX : zX (zAe n nv (236 + 8 * ((la + 1) % 8))) h hm) (hcp : zRS (236 + 8 * ((la + 1) % 8)) nc nt (xm_i h 303) (xm_i h 308) hm) (hpz : zPz (236 + 8 * ((la + 1) % 8)) hm) (e1 : xm_i hm 302 3 = nI (min (ne + 1) 8)) (e2 : xm_i hm 234 2 = nI (min (ne + 1) 8)) (e3 : xm_i hm 234 1 = nI ((la + 1) % 8)) (hh1 : ∀ j i, j < min ne 7 → i < 2217 → xm_i hm 305 (2217 * j + i) = xm_i h 305 (2217 * (j + (ne - min ne 7)) + i)) (hh2 : ∀ i, i < 2217 → xm_i hm 305 (2217 * min ne 7 + i) = xm_i h 303 i) (hout : ∀ i, 2217 ≤ i → xm_i hm 303 i = xm_i h 303 i) (hnn : n ≤ n') (hvv : nv ≤ nv') (hB : zBlk 201 nc nt n' nv' (xm_i hm 303) (xm_i h 308) hm) : zMk ρ nc nt nf na n' nv' (min (ne + 1) 8) ((la + 1) % 8) hm := by
  obtain ⟨a1, a2, a3, a4, a5, a6, a7, a8, a9, a10⟩ := hM
  have hr : ρ = 164 ∨ ρ = 183 := a1
  have h8 : (la + 1) % 8 < 8 := Nat.mod_lt _ (by omega)
  have eT : xm_i hm 308 = xm_i h 308 := hX.row (by omega) (fun k z => by unfold zAe zAn zscr at z; omega)
  refine ⟨a1, by rw [eT]; exact a2, by rw [eT]; exact zRT.fx a1 hX hn (fun a k z1 z2 z => by unfold zAe zAn zscr at z; omega) a2.1 a3, by rw [eT]; exact hB, by omega, h8, e1, e2, e3, fun j hj => ?_⟩
  by_cases hjl : j = min ne 7
  · refine ⟨n, nv, xm_i h 303, hnn, hvv, fun i hi => by rw [hjl]; exact hh2 i hi, fun i hi => (hout i hi).symm, fun i hi => ?_, ?_⟩
    · obtain ⟨ni, vi, Si, c1, c2, c3, c4, c6, c5⟩ := a10 (i + (ne - min ne 7)) (by omega)
      exact ⟨ni, vi, c1, c2, (hh1 i 1 (by omega) (by omega)).trans ((c3 1 (by omega)).trans c5.1.2.2.2.1), (hh1 i 2 (by omega) (by omega)).trans ((c3 2 (by omega)).trans c5.1.2.2.2.2.1)⟩
    have hs : ((la + 1) % 8 + 8 - (min (ne + 1) 8 - 1 - j)) % 8 = (la + 1) % 8 := by omega
    rw [hs, eT]
    refine ⟨a4.1, a4.2.1, a4.2.2.1, a4.2.2.2.1, hcp, hpz, zRI.fx hX hn (fun a k z1 z2 z3 z => by unfold zAe zAn zscr at z; omega) a4.2.2.2.2.2.2.1, zRV.fx hX hn (fun a k z1 z2 z3 z => by unfold zAe zAn zscr at z; omega) (fun k c z1 z2 z => by have := a2.1; unfold zAe zAn zscr at z; omega) a4.2.2.2.2.2.2.2⟩
  · obtain ⟨nj, vj, Sj, b1, b2, b3, b4, b6, b5⟩ := a10 (j + (ne - min ne 7)) (by omega)
    refine ⟨nj, vj, Sj, by omega, by omega, fun i hi => (hh1 j i (by omega) hi).trans (b3 i hi), fun i hi => (b4 i hi).trans (hout i hi).symm, fun i hi => ?_, ?_⟩
    · obtain ⟨p, q, q1, q2, q3, q4⟩ := b6 (i + (ne - min ne 7)) (by omega)
      exact ⟨p, q, q1, q2, (hh1 i 1 (by omega) (by omega)).trans q3, (hh1 i 2 (by omega) (by omega)).trans q4⟩
    have hs : ((la + 1) % 8 + 8 - (min (ne + 1) 8 - 1 - j)) % 8 = (la + 8 - (ne - 1 - (j + (ne - min ne 7)))) % 8 := by omega
    have hne2 : (la + 8 - (ne - 1 - (j + (ne - min ne 7)))) % 8 ≠ (la + 1) % 8 := by omega
    have hlt : (la + 8 - (ne - 1 - (j + (ne - min ne 7)))) % 8 < 8 := Nat.mod_lt _ (by omega)
    rw [hs, eT]
    generalize (la + 8 - (ne - 1 - (j + (ne - min ne 7)))) % 8 = q at *
    exact zBlk.fx hX hn (by omega) (fun a k z1 z2 z => by unfold zAe zAn zscr at z; omega) (fun a k z1 z2 z3 z => by unfold zAe zAn zscr at z; omega) (fun a k z1 z2 z3 z => by unfold zAe zAn zscr at z; omega) (fun k c z1 z2 z => by have := a2.1; unfold zAe zAn zscr at z; omega) b5
/-- what the class's remembering leaves -/
def zREM (nc nt n nv ne la : Nat) (h h1 : xm_H) : Prop := zF (zA1 (236 + 8 * ((la + 1) % 8))) h h1 ∧ xm_i h1 234 1 = nI ((la + 1) % 8) ∧ xm_i h1 234 2 = nI (min (ne + 1) 8) ∧ zRS (236 + 8 * ((la + 1) % 8)) nc nt (xm_i h 303) (xm_i h 308) h1 ∧ zPz (236 + 8 * ((la + 1) % 8)) h1
theorem zc_rem (hI : zInv ρ δ nc nt nf na n nv ne la nb bo no cap L xs h) : ∃ h1, f_X3_remember h = some ((), h1) ∧ zREM nc nt n nv ne la h h1 ∧ zRA ρ nc nt nf na n (xm_i h 303) (xm_i h 308) h1 ∧ zPz 201 h1 := by
  obtain ⟨a1, a2, a3, a4, a5, a6, a7, a8, a9, a10⟩ := hI.2.2.2.1
  have h8 : (la + 1) % 8 < 8 := Nat.mod_lt _ (by omega)
  obtain ⟨h1, r1, r2, r3, r4, g, r5, r6⟩ := zc_remember a6 a5 a9 a8 a4.2.2.2.2.2.1
  have hg : zRS 201 nc nt (xm_i h 303) (xm_i h 308) g := zRS.fr r6 (fun a k z1 z2 z => by omega) a4.2.2.2.2.1
  have hgp : zPz 201 g := fun i hi => by rw [r6.i (by omega)]; exact a4.2.2.2.2.2.1 i hi
  refine ⟨h1, r1, ⟨r2, r3, r4, r5.rs a2.1 a2.2.1 hg, r5.pz hgp⟩, ⟨a1, zRT.fr a1 r2 (fun a k z w => by unfold zA1 at w; omega) a2.1 a3, zRS.fr r2 (fun a k z1 z2 w => by unfold zA1 at w; omega) a4.2.2.2.2.1, zRI.fr r2 (fun a k z1 z2 w => by unfold zA1 at w; omega) a4.2.2.2.2.2.2.1⟩, fun i hi => by rw [r2.i (fun w => by unfold zA1 at w; omega)]; exact a4.2.2.2.2.2.1 i hi⟩
/-- what the reference's remembering leaves -/
def zREN (ne : Nat) (h hr : xm_H) : Prop := xm_i hr 303 = xm_i h 303 ∧ xm_i hr 308 = xm_i h 308 ∧ xm_i hr 302 3 = nI (min (ne + 1) 8) ∧ xm_i hr 302 4 = 0 ∧ (∀ j i, j < min ne 7 → i < 2217 → xm_i hr 305 (2217 * j + i) = xm_i h 305 (2217 * (j + (ne - min ne 7)) + i)) ∧ ∀ i, i < 2217 → xm_i hr 305 (2217 * min ne 7 + i) = xm_i h 303 i
theorem zm_rem {v : Int64} (hN : 20000 ≤ N) (hI : zInv ρ δ nc nt nf na n nv ne la nb bo no cap L xs h) (hR : zREM nc nt n nv ne la h h1) (hF : zF (zAn n nv) h1 hc) : ∃ hr, f_X11_remember N (xm_si (xm_sl hc 316 0 v) 302 4 0) = some ((), hr) ∧ zF (fun a k => a = 305 ∨ (a = 302 ∧ (k = 3 ∨ k = 4))) (xm_sl hc 316 0 v) hr ∧ zREN ne h hr := by
  obtain ⟨a1, a2, a3, a4, a5, a6, a7, a8, a9, a10⟩ := hI.2.2.2.1
  have h8 : (la + 1) % 8 < 8 := Nat.mod_lt _ (by omega)
  have q : ∀ a, (302 ≤ a ∧ a ≤ 303) ∨ a = 305 ∨ a = 308 → ∀ k, (a = 302 → k = 3) → xm_i hc a k = xm_i h a k := fun a ha k hk => by
    rw [hF.i (fun z => by unfold zAn zscr at z; omega), hR.1.i (fun z => by unfold zA1 at z; omega)]
  obtain ⟨hr, r1, r2, r3, r4, r5⟩ := zs_remember (N := N) (ne := ne) (h := xm_si (xm_sl hc 316 0 v) 302 4 0) hN a5 (by rw [xi_nk (by decide), xi_sl, q 302 (by omega) 3 (by omega)]; exact a7)
  refine ⟨hr, r1, ((zF.si (A := fun a k => a = 305 ∨ (a = 302 ∧ (k = 3 ∨ k = 4))) (Or.inr ⟨rfl, Or.inr rfl⟩)).tr (r2.mono (fun a k z => by omega))), ?_, ?_, r3, ?_, fun j i hj hi => ?_, fun i hi => ?_⟩
  · rw [r2.row (fun k z => by omega), zU_ot (by decide), xi_sl]
    exact funext fun k => q 303 (by omega) k (by omega)
  · rw [r2.row (fun k z => by omega), zU_ot (by decide), xi_sl]
    exact funext fun k => q 308 (by omega) k (by omega)
  · rw [r2.i (by omega), xi_eq]
  · rw [r4 j i hj hi, xi_ne (by decide), xi_sl, q 305 (by omega) _ (by omega)]
  · rw [r5 i hi, xi_ne (by decide), xi_sl, q 303 (by omega) _ (by omega)]
theorem zA1_e {n nv v a k : Nat} (z : zA1 v a k) : zAe n nv v a k := by
  rcases z with z | z
  · exact Or.inr (Or.inr (Or.inr (Or.inr (Or.inr z))))
  · exact Or.inr (Or.inr (Or.inr (Or.inr (Or.inl z))))
theorem zAm_e {n nv v a k : Nat} (z : zAm a k) : zAe n nv v a k := by
  rcases z with z | z
  · exact Or.inl (Or.inl z)
  · exact Or.inr (Or.inl z.1)
theorem zA0_e {n nv v a k : Nat} (z : a = 305 ∨ (a = 302 ∧ (k = 3 ∨ k = 4))) : zAe n nv v a k := by
  rcases z with z | ⟨z1, z | z⟩
  · exact Or.inr (Or.inr (Or.inl z))
  · exact Or.inr (Or.inr (Or.inr (Or.inl ⟨z1, z⟩)))
  · subst z1
    subst z
    exact Or.inl (Or.inl zscr4)
/-- places that no edit touches -/
theorem zAe_no {n nv v a k : Nat} (hv : 236 ≤ v ∧ v + 7 ≤ 299) (ha : a < 161 ∨ (a = 161 ∧ 4 ≤ k) ∨ (a = 162 ∧ k < 2) ∨ a = 163 ∨ (164 ≤ a ∧ a ≤ 181) ∨ (183 ≤ a ∧ a ≤ 200) ∨ a = 300 ∨ a = 301 ∨ (a = 302 ∧ (k = 6 ∨ k = 7 ∨ k = 8 ∨ k = 30)) ∨ a = 306 ∨ a = 308 ∨ a = 315 ∨ 318 ≤ a) : ¬ zAe n nv v a k := by
  unfold zAe zAn zscr
  omega
theorem zAn_no {n nv a k : Nat} (ha : 234 ≤ a ∧ a ≤ 299) : ¬ zAn n nv a k := by
  unfold zAn zscr
  omega
theorem zAm_no {a k : Nat} (ha : 234 ≤ a ∧ a ≤ 299) : ¬ zAm a k := by
  unfold zAm zscr
  omega
/-- everything but the market -/
theorem zInv_rest {v : Nat} {g : xm_H} (hv : 236 ≤ v ∧ v + 7 ≤ 299) (hI : zInv ρ δ nc nt nf na n nv ne la nb bo no cap L xs h) (hX : zX (zAe n nv v) h g) : xS ρ δ g ∧ zKon L xs g ∧ zBuf nb g ∧ zErr g ∧ zNm ρ nc bo g ∧ zOut bo no cap g := by
  have hn := hI.n
  obtain ⟨b1, b2, b3, b4, b5, b6, b7, b8⟩ := hI
  have hr : ρ = 164 ∨ ρ = 183 := b4.1
  have hnc := b4.2.1.1
  refine ⟨b1.fx hX, b3.fx hX hn (fun a k z1 => zAe_no hv (Or.inl (by omega))), ?_, ?_, ?_, ?_⟩
  · obtain ⟨d1, d2, d3, d4⟩ := b5
    refine ⟨d1, (hX.i (by omega) (zAe_no hv (by omega))).trans d2, (hX.i (by omega) (zAe_no hv (by omega))).trans d3, fun i hi => ?_⟩
    rw [hX.i (by omega) (zAe_no hv (by omega)), hX.i (a := 306) (by omega) (zAe_no hv (by omega))]
    exact d4 i hi
  · unfold zErr
    rw [hX.i (by omega) (zAe_no hv (by omega)), hX.i (a := 302) (k := 7) (by omega) (zAe_no hv (by omega)), hX.i (a := 161) (k := 5) (by omega) (zAe_no hv (by omega)), hX.i (a := 302) (k := 8) (by omega) (zAe_no hv (by omega))]
    exact b6
  · intro c hc
    obtain ⟨a, b, w, d1, d2, d3, d4, d5, d6, d7⟩ := b7 c hc
    exact ⟨a, b, w, (hX.r (by omega)).trans d1, d2, d3, d4, d5.fx hX (fun k => zAe_no hv (by omega)) (fun k => zAe_no hv (by omega)), d6, (hX.l (by omega) (by omega)).trans d7⟩
  · obtain ⟨d1, d2, d3, d4, d5, d6, d7, d8, d9, d10, d11, d12⟩ := b8
    refine ⟨d1, d2, d3, Nat.lt_of_lt_of_le d4 hX.1, d5, (hX.r (by omega)).trans d6, (hX.k d4).trans d7, (hX.i (by omega) (zAe_no hv (by omega))).trans d8, (hX.i (by omega) (zAe_no hv (by omega))).trans d9, (hX.i (by omega) (zAe_no hv (by omega))).trans d10, fun i hi => ?_, fun i hi => by rw [hX.i d4 (zAe_no hv (by omega))]; exact d12 i hi⟩
    rw [hX.i d4 (zAe_no hv (by omega)), hX.i (a := 315) (by omega) (zAe_no hv (by omega))]
    exact d11 i hi
/-- an edit -/
theorem zed {r1 : Option (Int32 × xm_H)} {r2 : xm_H → Option (Int32 × xm_H)} {v : Int32} (hI : zInv ρ δ nc nt nf na n nv ne la nb bo no cap L xs h) (hR : zREM nc nt n nv ne la h h1) (hF : zF (zAn n nv) h1 hc) (c1 : r1 = some (0, xm_sl hc 316 0 (Int32.toInt64 v))) (m0 : zF (fun a k => a = 305 ∨ (a = 302 ∧ (k = 3 ∨ k = 4))) (xm_sl hc 316 0 (Int32.toInt64 v)) hr) (m1 : zREN ne h hr) (m2 : r2 (xm_sl hc 316 0 (Int32.toInt64 v)) = some (v, hm)) (m3 : zF zAm hr hm) (m4 : xm_i hm 302 4 = 0) (hnn : n ≤ n') (hvv : nv ≤ nv') (hB : zBlk 201 nc nt n' nv' (xm_i hm 303) (xm_i h 308) hm) : zOp r1 r2 (zPo L xs h) := by
  have hn := hI.n
  have hv : 236 ≤ 236 + 8 * ((la + 1) % 8) ∧ 236 + 8 * ((la + 1) % 8) + 7 ≤ 299 := by omega
  have X1 : zX (zAe n nv (236 + 8 * ((la + 1) % 8))) h h1 := hR.1.x.mono (fun a k z => zA1_e z)
  have X2 : zX (zAe n nv (236 + 8 * ((la + 1) % 8))) h1 hc := hF.x.mono (fun a k z => Or.inl z)
  have X3 : zX (zAe n nv (236 + 8 * ((la + 1) % 8))) hc (xm_sl hc 316 0 (Int32.toInt64 v)) := zX.out _
  have X4 : zX (zAe n nv (236 + 8 * ((la + 1) % 8))) (xm_sl hc 316 0 (Int32.toInt64 v)) hr := m0.x.mono (fun a k z => zA0_e z)
  have X5 : zX (zAe n nv (236 + 8 * ((la + 1) % 8))) hr hm := m3.x.mono (fun a k z => zAm_e z)
  have hX : zX (zAe n nv (236 + 8 * ((la + 1) % 8))) h hm := X1.tr (X2.tr (X3.tr (X4.tr X5)))
  have hgo : ∀ a, (234 ≤ a ∧ a ≤ 299) → ∀ k, xm_i hm a k = xm_i h1 a k := fun a ha k => by
    rw [m3.i (zAm_no ha), m0.i (by omega), xi_sl, hF.i (zAn_no ha)]
  have hRS : zRS (236 + 8 * ((la + 1) % 8)) nc nt (xm_i h 303) (xm_i h 308) hm := by
    have hR4 := hR.2.2.2.1
    generalize 236 + 8 * ((la + 1) % 8) = q at hR4 hv ⊢
    obtain ⟨a1, a2, a3, a4, a5, a6⟩ := hR4
    refine ⟨(hgo _ (by omega) 0).trans a1, (hgo _ (by omega) 1).trans a2, (hgo _ (by omega) 2).trans a3, (hgo _ (by omega) 3).trans a4, fun t ht => (hgo _ (by omega) t).trans (a5 t ht), fun c hc => ?_⟩
    obtain ⟨b1, b2, b3, b4, b5, b6⟩ := a6 c hc
    exact ⟨(hgo _ (by omega) c).trans b1, (hgo _ (by omega) c).trans b2, (hgo _ (by omega) c).trans b3, (hgo _ (by omega) c).trans b4, (hgo _ (by omega) c).trans b5, (hgo _ (by omega) c).trans b6⟩
  have hPz : zPz (236 + 8 * ((la + 1) % 8)) hm := fun i hi => by rw [hgo _ (by omega)]; exact hR.2.2.2.2 i hi
  have q305 : ∀ k, xm_i hm 305 k = xm_i hr 305 k := fun k => m3.i (by unfold zAm zscr; omega)
  have hM := zMk_edit (n' := n') (nv' := nv') hI.2.2.2.1 hn hX hRS hPz (by rw [m3.i (by unfold zAm zscr; omega)]; exact m1.2.2.1) (by rw [hgo _ (by omega)]; exact hR.2.2.1) (by rw [hgo _ (by omega)]; exact hR.2.1) (fun j i hj hi => by rw [q305]; exact m1.2.2.2.2.1 j i hj hi) (fun i hi => by rw [q305]; exact m1.2.2.2.2.2 i hi) (fun i hi => by rw [m3.i (by unfold zAm zscr; omega), m1.1]) hnn hvv hB
  obtain ⟨s1, s2, s3, s4, s5, s6⟩ := zInv_rest hv hI hX
  refine ⟨0, _, v, _, c1, m2, m4, fun _ => ?_, ⟨ρ, δ, nc, nt, nf, na, n', nv', _, _, nb, bo, no, cap, s1, hI.2.1, s2, hM, s3, s4, s5, s6⟩, ?_, ?_⟩
  · rw [m3.l, m0.l]
    exact xl_eq
  · rw [m3.n, m0.n]
    show xm_n hc ≤ _
    rw [hF.n, hR.1.n]
    omega
  · rw [m3.sz, m0.sz]
    show xm_sz hc ≤ _
    rw [hF.sz, hR.1.sz]
    omega
theorem zRO.po {h2 : xm_H} (hI : zInv ρ δ nc nt nf na n nv ne la nb bo no cap L xs h) (hr : zRO h h2) : zPo L xs h h2 := ⟨⟨ρ, δ, nc, nt, nf, na, n, nv, ne, la, nb, bo, no, cap, hI.fx hr.1⟩, by have := hr.2.1; omega, by have := hr.2.2; omega⟩
/-- a block whose campaigns or floors have changed, and nothing else -/
theorem zBlk_upd {S' : zV} (hB : zBlk 201 nc nt n nv S T h) (hn : 318 ≤ xm_n h) (hnc : nc ≤ 8) (hX : zX (fun a k => zscr a k ∨ (201 ≤ a ∧ a ≤ 208) ∨ a = 303 ∨ a = 305 ∨ a = 302 ∨ (234 ≤ a ∧ a ≤ 299)) h hm) (h57 : ∀ i, 57 ≤ i → S' i = S i) (h0 : S' 0 = S 0) (h1' : S' 1 = S 1) (h2' : S' 2 = S 2) (hC : zWC nc S') (hf : ∀ t, t < nt → zB 0 999 (S' (51 + t))) (hR : zRS 201 nc nt S' T hm) (hp : zPz 201 hm) : zBlk 201 nc nt n nv S' T hm := by
  obtain ⟨⟨w1, w2, w3, w4, w5, w6, w7, w8⟩, v, n1, t1, r1, p1, i1, c1⟩ := hB
  refine ⟨⟨w1, w2, by rw [h0]; exact w3, by rw [h1']; exact w4, by rw [h2']; exact w5, hC, hf, fun k hk => ?_⟩, fun k hk => ?_, n1, by rw [h0]; exact t1, hR, hp, ?_, ?_⟩
  · rw [h57 _ (by omega), h57 _ (by omega), h57 _ (by omega), h57 _ (by omega), h57 _ (by omega)]
    exact w8 k hk
  · rw [h57 _ (by omega), h57 _ (by omega), h57 _ (by omega), h57 _ (by omega)]
    exact v k hk
  · intro k hk
    have := zRI.fx hX hn (fun a k z1 z2 z3 z => by unfold zscr at z; omega) i1 k hk
    rw [h57 _ (by omega), h57 _ (by omega), h57 _ (by omega), h57 _ (by omega), h57 _ (by omega)]
    exact this
  · refine zRV.cg (S := S) (fun k hk => (v k hk).2.2.2) (by omega) (fun k w _ _ => h57 _ (by omega)) (fun i w _ _ => h57 _ (by omega)) ?_
    exact zRV.fx hX hn (fun a k z1 z2 z3 z => by unfold zscr at z; omega) (fun k c z1 z2 z => by unfold zscr at z; omega) c1
end Ed
