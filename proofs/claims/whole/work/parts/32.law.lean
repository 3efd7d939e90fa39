/-! the law's invariant: the class's cells against the reference's -/
def zX (A : Nat → Nat → Prop) (h h' : xm_H) : Prop := xm_n h ≤ xm_n h' ∧ ∀ a, a < xm_n h → xm_k h' a = xm_k h a ∧ (∀ k, xm_r h' a k = xm_r h a k) ∧ (∀ k, ¬ A a k → xm_i h' a k = xm_i h a k) ∧ ∀ k, ¬ (a = 316 ∨ (a = 302 ∧ k = 16)) → xm_l h' a k = xm_l h a k
section Xf
variable {A B : Nat → Nat → Prop} {h h1 h2 : xm_H}
theorem zX.rf : zX A h h := ⟨Nat.le_refl _, fun _ _ => ⟨rfl, fun _ => rfl, fun _ _ => rfl, fun _ _ => rfl⟩⟩
theorem zX.tr (e1 : zX A h h1) (e2 : zX A h1 h2) : zX A h h2 := ⟨Nat.le_trans e1.1 e2.1, fun a ha => by
  obtain ⟨a1, a2, a3, a4⟩ := e1.2 a ha
  obtain ⟨b1, b2, b3, b4⟩ := e2.2 a (Nat.lt_of_lt_of_le ha e1.1)
  exact ⟨b1.trans a1, fun k => (b2 k).trans (a2 k), fun k n => (b3 k n).trans (a3 k n), fun k n => (b4 k n).trans (a4 k n)⟩⟩
theorem zX.mono (e1 : zX A h h1) (hAB : ∀ a k, A a k → B a k) : zX B h h1 := ⟨e1.1, fun a ha => ⟨(e1.2 a ha).1, (e1.2 a ha).2.1, fun k n => (e1.2 a ha).2.2.1 k (fun z => n (hAB a k z)), (e1.2 a ha).2.2.2⟩⟩
theorem zF.x (e : zF A h h1) : zX A h h1 := ⟨Nat.le_of_eq e.n.symm, fun a _ => ⟨e.k a, e.r a, fun k n => e.i n, fun k _ => e.l a k⟩⟩
theorem zX.new (κ : Nat × Nat) : zX A h (xm_new h κ) := ⟨Nat.le_succ _, fun a ha => by
  have hne : a ≠ h.1 := Nat.ne_of_lt ha
  refine ⟨if_neg hne, fun k => if_neg hne, fun k _ => if_neg hne, fun k _ => if_neg hne⟩⟩
theorem zX.out (v : Int64) : zX A h (xm_sl h 316 0 v) := ⟨Nat.le_refl _, fun a _ => ⟨rfl, fun _ => rfl, fun _ _ => rfl, fun k n => if_neg (fun z => n (Or.inl z.1))⟩⟩
theorem zX.outD (v : UInt64) : zX A h (xm_sd h 317 0 v) := ⟨Nat.le_refl _, fun a _ => ⟨rfl, fun _ => rfl, fun _ _ => rfl, fun k n => rfl⟩⟩
theorem zX.i (e : zX A h h1) {a k : Nat} (ha : a < xm_n h) (n : ¬ A a k) : xm_i h1 a k = xm_i h a k := (e.2 a ha).2.2.1 k n
theorem zX.k (e : zX A h h1) {a : Nat} (ha : a < xm_n h) : xm_k h1 a = xm_k h a := (e.2 a ha).1
theorem zX.r (e : zX A h h1) {a k : Nat} (ha : a < xm_n h) : xm_r h1 a k = xm_r h a k := (e.2 a ha).2.1 k
theorem zX.l (e : zX A h h1) {a k : Nat} (ha : a < xm_n h) (n : ¬ (a = 316 ∨ (a = 302 ∧ k = 16))) : xm_l h1 a k = xm_l h a k := (e.2 a ha).2.2.2 k n
theorem zX.row (e : zX A h h1) {a : Nat} (ha : a < xm_n h) (n : ∀ k, ¬ A a k) : xm_i h1 a = xm_i h a := funext fun k => e.i ha (n k)
end Xf
/-- places that hold nothing from one call to the next -/
def zscr (a k : Nat) : Prop := (215 ≤ a ∧ a ≤ 227) ∨ (a = 182 ∧ (k = 6 ∨ k = 9)) ∨ (a = 161 ∧ (k = 1 ∨ k = 2)) ∨ (a = 162 ∧ 2 ≤ k) ∨ a = 304 ∨ a = 307 ∨ (a = 302 ∧ (k = 4 ∨ (9 ≤ k ∧ k ≤ 17) ∨ k = 23 ∨ k = 27 ∨ k = 28)) ∨ (312 ≤ a ∧ a ≤ 314)
/-- constants of the old heap -/
def zKon (L : Nat) (xs : zV) (h : xm_H) : Prop := ∀ a, a < 160 → xm_k h a = xhk L a ∧ ∀ j, xm_i h a j = xhi xs a j ∧ xm_r h a j = xhr a j
/-- impression i may have led to conversion k -/
def zLd (S T : zV) (k i : Nat) : Bool := decide (S (57 + 5 * i + 1) = S (2057 + 4 * k + 1) ∧ ¬ S (57 + 5 * i) < S (2057 + 4 * k) - T 1)
def zLst (S T : zV) (k : Nat) : Nat → Int32
  | 0 => -1
  | n + 1 => if zLd S T k n = true then S (57 + 5 * n + 2) else zLst S T k n
def zFst (S T : zV) (k : Nat) : Nat → Int32
  | 0 => -1
  | n + 1 => if zct (zLd S T k) n = 0 then (if zLd S T k n = true then S (57 + 5 * n + 2) else -1) else zFst S T k n
def zRV (nc nv : Nat) (S T : zV) (h : xm_H) : Prop := ∀ k, k < nv → ∃ cn, cn ≤ 160 ∧ S (2057 + 4 * k + 3) = nI cn ∧ xm_i h 229 k = S (2057 + 4 * k + 2) ∧ xm_i h 230 k = zFst S T k cn ∧ xm_i h 231 k = zLst S T k cn ∧ xm_i h 232 k = nI (zct (zLd S T k) cn) ∧ ∀ c, c < nc → xm_i h 233 (8 * k + c) = nI (zct (fun i => zLd S T k i && decide (S (57 + 5 * i + 2) = nI c)) cn)
def zWV (nv n : Nat) (S : zV) : Prop := ∀ k, k < nv → zB 0 20000 (S (2057 + 4 * k)) ∧ zB 0 15 (S (2057 + 4 * k + 1)) ∧ zB 1 9999 (S (2057 + 4 * k + 2)) ∧ zB 0 n (S (2057 + 4 * k + 3))
def zPz (v : Nat) (h : xm_H) : Prop := ∀ i, i < 8 → xm_i h (v + 7) i = 0 ∨ xm_i h (v + 7) i = 1
/-- a state of n impressions and nv conversions, with its standing at v -/
def zBlk (v nc nt n nv : Nat) (S T : zV) (h : xm_H) : Prop := zWS nc nt n nv S ∧ zWV nv n S ∧ n ≤ 160 ∧ zB 0 9999 (S 0) ∧ zRS v nc nt S T h ∧ zPz v h ∧ zRI n S h ∧ zRV nc nv S T h
/-- the market -/
def zMk (ρ nc nt nf na n nv ne la : Nat) (h : xm_H) : Prop := xIsR ρ ∧ zWT nc nt nf na (xm_i h 308) ∧ zRT ρ nc nf na (xm_i h 308) h ∧ zBlk 201 nc nt n nv (xm_i h 303) (xm_i h 308) h ∧ ne ≤ 8 ∧ la < 8 ∧ xm_i h 302 3 = nI ne ∧ xm_i h 234 2 = nI ne ∧ xm_i h 234 1 = nI la ∧ ∀ j, j < ne → ∃ nj vj Sj, nj ≤ n ∧ vj ≤ nv ∧ (∀ i, i < 2217 → xm_i h 305 (2217 * j + i) = Sj i) ∧ (∀ i, 2217 ≤ i → Sj i = xm_i h 303 i) ∧ (∀ i, i < j → ∃ a b, a ≤ nj ∧ b ≤ vj ∧ xm_i h 305 (2217 * i + 1) = nI a ∧ xm_i h 305 (2217 * i + 2) = nI b) ∧ zBlk (236 + 8 * ((la + 8 - (ne - 1 - j)) % 8)) nc nt nj vj Sj (xm_i h 308) h
/-- the buffer -/
def zBuf (nb : Nat) (h : xm_H) : Prop := nb ≤ 600 ∧ xm_i h 162 1 = nI nb ∧ xm_i h 302 6 = nI nb ∧ ∀ i, i < 600 → xm_i h 163 i = xm_i h 306 i ∧ zB 0 255 (xm_i h 306 i)
def zErr (h : xm_H) : Prop := xm_i h 161 4 = xm_i h 302 7 ∧ xm_i h 161 5 = xm_i h 302 8
/-- a word of letters as a text object at a, its bytes at b -/
def zStr (h : xm_H) (a b : Nat) (w : List Nat) : Prop := a < xm_n h ∧ b < xm_n h ∧ xm_k h a = (12, 0) ∧ xm_r h a 0 = some b ∧ xm_i h a 1 = 0 ∧ xm_k h b = (102, w.length) ∧ ∀ i x, w[i]? = some x → xm_i h b i = nI x
def zPk (w : List Nat) : Nat := w.foldl (fun s x => 32 * s + (x - 96)) 0
def zLet (w : List Nat) : Prop := 1 ≤ w.length ∧ w.length ≤ 10 ∧ ∀ x ∈ w, 97 ≤ x ∧ x ≤ 122
/-- the names of the campaigns; bo: where the output's bytes lie -/
def zNm (ρ nc bo : Nat) (h : xm_H) : Prop := ∀ c, c < nc → ∃ a b w, xm_r h (ρ + 10 + c) 0 = some a ∧ 318 ≤ a ∧ 318 ≤ b ∧ b ≠ bo ∧ zStr h a b w ∧ zLet w ∧ xm_l h 311 c = lN (zPk w)
def zOut (bo no cap : Nat) (h : xm_H) : Prop := no ≤ 120 ∧ no ≤ cap ∧ cap ≤ 300 ∧ bo < xm_n h ∧ (bo = 301 ∨ 318 ≤ bo) ∧ xm_r h 300 0 = some bo ∧ xm_k h bo = (102, cap) ∧ xm_i h 300 1 = 0 ∧ xm_i h 300 3 = nI no ∧ xm_i h 302 30 = nI no ∧ (∀ i, i < no → xm_i h bo i = xm_i h 315 i ∧ zB 32 126 (xm_i h 315 i)) ∧ ∀ i, i < cap → zB 0 127 (xm_i h bo i)
/-- all of it -/
def zInv (ρ δ nc nt nf na n nv ne la nb bo no cap L : Nat) (xs : zV) (h : xm_H) : Prop := xS ρ δ h ∧ ρ ≠ δ ∧ zKon L xs h ∧ zMk ρ nc nt nf na n nv ne la h ∧ zBuf nb h ∧ zErr h ∧ zNm ρ nc bo h ∧ zOut bo no cap h
section InvF
variable {A : Nat → Nat → Prop} {h h' : xm_H} {S T : zV}
theorem zRS.fx {v nc nt : Nat} (hX : zX A h h') (hv : v + 7 < xm_n h) (hA : ∀ a k, v ≤ a → a ≤ v + 7 → ¬ A a k) (hR : zRS v nc nt S T h) : zRS v nc nt S T h' := by
  obtain ⟨a1, a2, a3, a4, a5, a6⟩ := hR
  have g : ∀ j k, j < 8 → xm_i h' (v + j) k = xm_i h (v + j) k := fun j k hj => hX.i (by omega) (hA _ _ (by omega) (by omega))
  refine ⟨(g 0 0 (by omega)).trans a1, (g 0 1 (by omega)).trans a2, (g 0 2 (by omega)).trans a3, (g 0 3 (by omega)).trans a4, fun k hk => (g 1 k (by omega)).trans (a5 k hk), fun c hc => ?_⟩
  obtain ⟨b1, b2, b3, b4, b5, b6⟩ := a6 c hc
  exact ⟨(g 2 c (by omega)).trans b1, (g 3 c (by omega)).trans b2, (g 4 c (by omega)).trans b3, (g 5 c (by omega)).trans b4, (g 6 c (by omega)).trans b5, (g 7 c (by omega)).trans b6⟩
theorem zRT.fx {ρ nc nf na : Nat} (hρ : xIsR ρ) (hX : zX A h h') (hn : 318 ≤ xm_n h) (hA : ∀ a k, ρ ≤ a → a ≤ ρ + 17 → ¬ A a k) (hnc : nc ≤ 8) (hR : zRT ρ nc nf na T h) : zRT ρ nc nf na T h' := by
  have hr : ρ = 164 ∨ ρ = 183 := hρ
  obtain ⟨a1, a2, a3, a4, a5, a6, a7⟩ := hR
  have g : ∀ j k, j < 18 → xm_i h' (ρ + j) k = xm_i h (ρ + j) k := fun j k hj => hX.i (by omega) (hA _ _ (by omega) (by omega))
  refine ⟨(g 0 0 (by omega)).trans a1, (g 0 1 (by omega)).trans a2, (g 0 3 (by omega)).trans a3, (g 0 5 (by omega)).trans a4, (g 0 7 (by omega)).trans a5, fun k hk => (g 1 k (by omega)).trans (a6 k hk), fun c hc => ?_⟩
  obtain ⟨b1, b2, b3, m, b4, b5, b6⟩ := a7 c hc
  have g2 : ∀ k, xm_i h' (ρ + 10 + c) k = xm_i h (ρ + 10 + c) k := fun k => hX.i (by omega) (hA _ _ (by omega) (by omega))
  exact ⟨(g2 3).trans b1, (g2 4).trans b2, (g2 5).trans b3, m, b4, (g2 7).trans b5, b6⟩
theorem zRI.fx {n : Nat} (hX : zX A h h') (hn : 318 ≤ xm_n h) (hA : ∀ a k, 210 ≤ a → a ≤ 214 → k < n → ¬ A a k) (hR : zRI n S h) : zRI n S h' := by
  intro k hk
  obtain ⟨b1, b2, b3, b4, b5⟩ := hR k hk
  exact ⟨(hX.i (by omega) (hA _ _ (by omega) (by omega) hk)).trans b1, (hX.i (by omega) (hA _ _ (by omega) (by omega) hk)).trans b2, (hX.i (by omega) (hA _ _ (by omega) (by omega) hk)).trans b3, (hX.i (by omega) (hA _ _ (by omega) (by omega) hk)).trans b4, (hX.i (by omega) (hA _ _ (by omega) (by omega) hk)).trans b5⟩
theorem zRV.fx {nc nv : Nat} (hX : zX A h h') (hn : 318 ≤ xm_n h) (hA : ∀ a k, 229 ≤ a → a ≤ 232 → k < nv → ¬ A a k) (hA2 : ∀ k c, k < nv → c < nc → ¬ A 233 (8 * k + c)) (hR : zRV nc nv S T h) : zRV nc nv S T h' := by
  intro k hk
  obtain ⟨cn, b0, b1, b2, b3, b4, b5, b6⟩ := hR k hk
  exact ⟨cn, b0, b1, (hX.i (by omega) (hA _ _ (by omega) (by omega) hk)).trans b2, (hX.i (by omega) (hA _ _ (by omega) (by omega) hk)).trans b3, (hX.i (by omega) (hA _ _ (by omega) (by omega) hk)).trans b4, (hX.i (by omega) (hA _ _ (by omega) (by omega) hk)).trans b5, fun c hc => (hX.i (by omega) (hA2 k c hk hc)).trans (b6 c hc)⟩
theorem zPz.fx {v : Nat} (hX : zX A h h') (hv : v + 7 < xm_n h) (hA : ∀ k, ¬ A (v + 7) k) (hR : zPz v h) : zPz v h' := fun i hi => by rw [hX.i hv (hA i)]; exact hR i hi
theorem zBlk.fx {v nc nt n nv : Nat} (hX : zX A h h') (hn : 318 ≤ xm_n h) (hv : v + 7 < 318) (h1 : ∀ a k, v ≤ a → a ≤ v + 7 → ¬ A a k) (h2 : ∀ a k, 210 ≤ a → a ≤ 214 → k < n → ¬ A a k) (h3 : ∀ a k, 229 ≤ a → a ≤ 232 → k < nv → ¬ A a k) (h4 : ∀ k c, k < nv → c < nc → ¬ A 233 (8 * k + c)) (hR : zBlk v nc nt n nv S T h) : zBlk v nc nt n nv S T h' := ⟨hR.1, hR.2.1, hR.2.2.1, hR.2.2.2.1, zRS.fx hX (by omega) h1 hR.2.2.2.2.1, zPz.fx hX (by omega) (fun k => h1 _ _ (by omega) (by omega)) hR.2.2.2.2.2.1, zRI.fx hX hn h2 hR.2.2.2.2.2.2.1, zRV.fx hX hn h3 h4 hR.2.2.2.2.2.2.2⟩
theorem zMk.fx {ρ nc nt nf na n nv ne la : Nat} (hX : zX zscr h h') (hn : 318 ≤ xm_n h) (hR : zMk ρ nc nt nf na n nv ne la h) : zMk ρ nc nt nf na n nv ne la h' := by
  obtain ⟨a1, a2, a3, a4, a5, a6, a7, a8, a9, a10⟩ := hR
  have hr : ρ = 164 ∨ ρ = 183 := a1
  have eT : xm_i h' 308 = xm_i h 308 := hX.row (by omega) (fun k z => by unfold zscr at z; omega)
  have eS : xm_i h' 303 = xm_i h 303 := hX.row (by omega) (fun k z => by unfold zscr at z; omega)
  have eH : xm_i h' 305 = xm_i h 305 := hX.row (by omega) (fun k z => by unfold zscr at z; omega)
  have hB : ∀ v n nv S, (v + 7 < 215 ∨ 228 ≤ v) → 201 ≤ v → v + 7 < 300 → zBlk v nc nt n nv S (xm_i h 308) h → zBlk v nc nt n nv S (xm_i h 308) h' := fun v n nv S hv1 hv2 hv3 hb => zBlk.fx hX hn (by omega) (fun a k z1 z2 z => by unfold zscr at z; omega) (fun a k z1 z2 z3 z => by unfold zscr at z; omega) (fun a k z1 z2 z3 z => by unfold zscr at z; omega) (fun k c z1 z2 z => by unfold zscr at z; omega) hb
  refine ⟨a1, by rw [eT]; exact a2, by rw [eT]; exact zRT.fx a1 hX hn (fun a k z1 z2 z => by unfold zscr at z; omega) a2.1 a3, by rw [eT, eS]; exact hB 201 _ _ _ (by omega) (by omega) (by omega) a4, a5, a6, (hX.i (by omega) (fun z => by unfold zscr at z; omega)).trans a7, (hX.i (by omega) (fun z => by unfold zscr at z; omega)).trans a8, (hX.i (by omega) (fun z => by unfold zscr at z; omega)).trans a9, fun j hj => ?_⟩
  obtain ⟨nj, vj, Sj, b1, b2, b3, b4, b6, b5⟩ := a10 j hj
  refine ⟨nj, vj, Sj, b1, b2, ?_, ?_, by rw [eH]; exact b6, ?_⟩
  · rw [eH]
    exact b3
  · rw [eS]
    exact b4
  · rw [eT]
    exact hB _ _ _ _ (by omega) (by omega) (by omega) b5
theorem zBuf.fx {nb : Nat} (hX : zX zscr h h') (hn : 318 ≤ xm_n h) (hR : zBuf nb h) : zBuf nb h' := by
  obtain ⟨a1, a2, a3, a4⟩ := hR
  refine ⟨a1, (hX.i (by omega) (fun z => by unfold zscr at z; omega)).trans a2, (hX.i (by omega) (fun z => by unfold zscr at z; omega)).trans a3, fun i hi => ?_⟩
  rw [hX.i (by omega) (fun z => by unfold zscr at z; omega), hX.i (a := 306) (by omega) (fun z => by unfold zscr at z; omega)]
  exact a4 i hi
theorem zErr.fx (hX : zX zscr h h') (hn : 318 ≤ xm_n h) (hR : zErr h) : zErr h' := by
  unfold zErr
  rw [hX.i (by omega) (fun z => by unfold zscr at z; omega), hX.i (a := 302) (k := 7) (by omega) (fun z => by unfold zscr at z; omega), hX.i (a := 161) (k := 5) (by omega) (fun z => by unfold zscr at z; omega), hX.i (a := 302) (k := 8) (by omega) (fun z => by unfold zscr at z; omega)]
  exact hR
theorem zStr.fx {a b : Nat} {w : List Nat} (hX : zX A h h') (ha : ∀ k, ¬ A a k) (hb : ∀ k, ¬ A b k) (hR : zStr h a b w) : zStr h' a b w := by
  obtain ⟨a1, a2, a3, a4, a5, a6, a7⟩ := hR
  exact ⟨Nat.lt_of_lt_of_le a1 hX.1, Nat.lt_of_lt_of_le a2 hX.1, (hX.k a1).trans a3, (hX.r a1).trans a4, (hX.i a1 (ha 1)).trans a5, (hX.k a2).trans a6, fun i x hx => (hX.i a2 (hb i)).trans (a7 i x hx)⟩
theorem zNm.fx {ρ nc bo : Nat} (hX : zX A h h') (hn : 318 ≤ xm_n h) (hρ : xIsR ρ) (hnc : nc ≤ 8) (hA : ∀ a k, 318 ≤ a → a ≠ bo → ¬ A a k) (hbo : ∀ c, c < nc → ∀ a, xm_r h (ρ + 10 + c) 0 = some a → a ≠ bo) (hR : zNm ρ nc bo h) : zNm ρ nc bo h' := by
  intro c hc
  have hr : ρ = 164 ∨ ρ = 183 := hρ
  obtain ⟨a, b, w, b1, b2, b3, b4, b5, b6, b7⟩ := hR c hc
  exact ⟨a, b, w, (hX.r (by omega)).trans b1, b2, b3, b4, zStr.fx hX (fun k => hA a k b2 (hbo c hc a b1)) (fun k => hA b k b3 b4) b5, b6, (hX.l (by omega) (by omega)).trans b7⟩
theorem zOut.fx {bo no cap : Nat} (hX : zX zscr h h') (hn : 318 ≤ xm_n h) (hR : zOut bo no cap h) : zOut bo no cap h' := by
  obtain ⟨a1, a2, a3, a4, a5, a6, a7, a8, a9, a10, a11, a12⟩ := hR
  refine ⟨a1, a2, a3, Nat.lt_of_lt_of_le a4 hX.1, a5, (hX.r (by omega)).trans a6, (hX.k a4).trans a7, (hX.i (by omega) (fun z => by unfold zscr at z; omega)).trans a8, (hX.i (by omega) (fun z => by unfold zscr at z; omega)).trans a9, (hX.i (by omega) (fun z => by unfold zscr at z; omega)).trans a10, fun i hi => ?_, fun i hi => by rw [hX.i a4 (fun z => by unfold zscr at z; omega)]; exact a12 i hi⟩
  rw [hX.i a4 (fun z => by unfold zscr at z; omega), hX.i (a := 315) (by omega) (fun z => by unfold zscr at z; omega)]
  exact a11 i hi
theorem zKon.fx {L : Nat} {xs : zV} (hX : zX A h h') (hn : 318 ≤ xm_n h) (hA : ∀ a k, a < 160 → ¬ A a k) (hR : zKon L xs h) : zKon L xs h' := by
  intro a ha
  obtain ⟨a1, a2⟩ := hR a ha
  exact ⟨(hX.k (by omega)).trans a1, fun j => ⟨(hX.i (by omega) (hA a j ha)).trans (a2 j).1, (hX.r (by omega)).trans (a2 j).2⟩⟩
set_option maxRecDepth 100000 in
theorem xRDl_len : xRDl.length = 158 := by decide +kernel
theorem xS.fx {ρ δ : Nat} (hX : zX A h h') (hS : xS ρ δ h) : xS ρ δ h' := by
  obtain ⟨⟨a1, a2, a3⟩, b1, b2, b3, b4⟩ := hS
  refine ⟨⟨Nat.le_trans a1 hX.1, fun i h1 h2 => (hX.k (by omega)).trans (a2 i h1 h2), fun a k b hb => ?_⟩, b1, b2, (hX.r (by omega)).trans b3, (hX.r (by omega)).trans b4⟩
  have hlt : a < 318 := by
    rcases Nat.lt_or_ge a 318 with h1 | h1
    · exact h1
    · exfalso
      unfold xRD at hb
      have e9 : ([] :: xRDl).getD (a - 159) [] = [] := by
        rw [List.getD_eq_getElem?_getD, List.getElem?_eq_none (by rw [List.length_cons, xRDl_len]; omega)]
        rfl
      rw [e9] at hb
      simp at hb
  exact (hX.r (by omega)).trans (a3 a k b hb)
theorem zInv.n {ρ δ nc nt nf na n nv ne la nb bo no cap L : Nat} {xs : zV} (hI : zInv ρ δ nc nt nf na n nv ne la nb bo no cap L xs h) : 318 ≤ xm_n h := hI.1.1.1
theorem zInv.fx {ρ δ nc nt nf na n nv ne la nb bo no cap L : Nat} {xs : zV} (hX : zX zscr h h') (hI : zInv ρ δ nc nt nf na n nv ne la nb bo no cap L xs h) : zInv ρ δ nc nt nf na n nv ne la nb bo no cap L xs h' := by
  have hn := hI.n
  obtain ⟨a1, a2, a3, a4, a5, a6, a7, a8⟩ := hI
  refine ⟨a1.fx hX, a2, a3.fx hX hn (fun a k z1 z => by unfold zscr at z; omega), a4.fx hX hn, a5.fx hX hn, a6.fx hX hn, ?_, a8.fx hX hn⟩
  intro c hc
  have hr : ρ = 164 ∨ ρ = 183 := a4.1
  have hnc := a4.2.1.1
  obtain ⟨a, b, w, b1, b2, b3, b4, b5, b6, b7⟩ := a7 c hc
  exact ⟨a, b, w, (hX.r (by omega)).trans b1, b2, b3, b4, b5.fx hX (fun k z => by unfold zscr at z; omega) (fun k z => by unfold zscr at z; omega), b6, (hX.l (by omega) (by omega)).trans b7⟩
end InvF
