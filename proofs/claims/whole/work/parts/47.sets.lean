/-! edits: setBid, setBudget, setMode, setFloor, pause, resume -/
section Set
variable {N ρ δ nc nt nf na n nv ne la nb bo no cap L : Nat} {xs : zV} {S T : zV} {h h1 hc hr hm : xm_H} {x y z w : Int32}
theorem zed_set {r1 : Option (Int32 × xm_H)} {r2 : xm_H → Option (Int32 × xm_H)} {v : Int32} (hI : zInv ρ δ nc nt nf na n nv ne la nb bo no cap L xs h) (hR : zREM nc nt n nv ne la h h1) (hF : zF (fun a _ => 201 ≤ a ∧ a ≤ 208) h1 hc) (c1 : r1 = some (0, xm_sl hc 316 0 (Int32.toInt64 v))) (m0 : zF (fun a k => a = 305 ∨ (a = 302 ∧ (k = 3 ∨ k = 4))) (xm_sl hc 316 0 (Int32.toInt64 v)) hr) (m1 : zREN ne h hr) (m2 : r2 (xm_sl hc 316 0 (Int32.toInt64 v)) = some (v, hm)) (m3 : zF (fun a k => a = 303 ∧ 3 ≤ k ∧ k < 57) hr hm) (hC : zWC nc (xm_i hm 303)) (hf : ∀ t, t < nt → zB 0 999 (xm_i hm 303 (51 + t))) (hRS : zRS 201 nc nt (xm_i hm 303) (xm_i h 308) hc) (hp : zPz 201 hc) : zOp r1 r2 (zPo L xs h) := by
  have hn := hI.n
  have hF2 : zF (zAn n nv) h1 hc := hF.mono (fun a k z => Or.inr (Or.inl z))
  have m3' : zF zAm hr hm := m3.mono (fun a k z => Or.inr ⟨z.1, by omega⟩)
  have q : ∀ a k, 201 ≤ a → a ≤ 208 → xm_i hm a k = xm_i hc a k := fun a k z1 z2 => by
    rw [m3.i (by omega), m0.i (by omega), xi_sl]
  have X1 : zX (fun a k => zscr a k ∨ (201 ≤ a ∧ a ≤ 208) ∨ a = 303 ∨ a = 305 ∨ a = 302 ∨ (234 ≤ a ∧ a ≤ 299)) h h1 := hR.1.x.mono (fun a k z => by unfold zA1 at z; right; omega)
  have X2 : zX (fun a k => zscr a k ∨ (201 ≤ a ∧ a ≤ 208) ∨ a = 303 ∨ a = 305 ∨ a = 302 ∨ (234 ≤ a ∧ a ≤ 299)) h1 hc := hF.x.mono (fun a k z => Or.inr (Or.inl z))
  have X4 : zX (fun a k => zscr a k ∨ (201 ≤ a ∧ a ≤ 208) ∨ a = 303 ∨ a = 305 ∨ a = 302 ∨ (234 ≤ a ∧ a ≤ 299)) (xm_sl hc 316 0 (Int32.toInt64 v)) hr := m0.x.mono (fun a k z => by right; omega)
  have X5 : zX (fun a k => zscr a k ∨ (201 ≤ a ∧ a ≤ 208) ∨ a = 303 ∨ a = 305 ∨ a = 302 ∨ (234 ≤ a ∧ a ≤ 299)) hr hm := m3.x.mono (fun a k z => by right; omega)
  have hS : ∀ i, ¬ (3 ≤ i ∧ i < 57) → xm_i hm 303 i = xm_i h 303 i := fun i hi => by rw [m3.i (by omega), m1.1]
  refine zed hI hR hF2 c1 m0 m1 m2 m3' (by rw [m3.i (by omega)]; exact m1.2.2.2.1) (Nat.le_refl _) (Nat.le_refl _) ?_
  refine zBlk_upd (S := xm_i h 303) hI.2.2.2.1.2.2.2.1 hn hI.wt.1 (X1.tr (X2.tr ((zX.out _).tr (X4.tr X5)))) (fun i hi => hS i (by omega)) (hS 0 (by omega)) (hS 1 (by omega)) (hS 2 (by omega)) hC hf ?_ (fun i hi => by rw [q _ _ (by omega) (by omega)]; exact hp i hi)
  obtain ⟨a1, a2, a3, a4, a5, a6⟩ := hRS
  refine ⟨(q _ _ (by omega) (by omega)).trans a1, (q _ _ (by omega) (by omega)).trans a2, (q _ _ (by omega) (by omega)).trans a3, (q _ _ (by omega) (by omega)).trans a4, fun t ht => (q _ _ (by omega) (by omega)).trans (a5 t ht), fun c hc' => ?_⟩
  obtain ⟨b1, b2, b3, b4, b5, b6⟩ := a6 c hc'
  exact ⟨(q _ _ (by omega) (by omega)).trans b1, (q _ _ (by omega) (by omega)).trans b2, (q _ _ (by omega) (by omega)).trans b3, (q _ _ (by omega) (by omega)).trans b4, (q _ _ (by omega) (by omega)).trans b5, (q _ _ (by omega) (by omega)).trans b6⟩
theorem zRS_s0 {c : Nat} {v : Int32} (hc8 : c < 8) (hR : zRS 201 nc nt S T h) : zRS 201 nc nt (zU S (3 + 6 * c) v) T (xm_si h 203 c v) := by
  obtain ⟨a1, a2, a3, a4, a5, a6⟩ := hR
  refine ⟨by rw [zU_ne (by omega), xi_ne (by decide)]; exact a1, by rw [zU_ne (by omega), xi_ne (by decide)]; exact a2, by rw [zU_ne (by omega), xi_ne (by decide)]; exact a3, by rw [zU_ne (by omega), xi_ne (by decide)]; exact a4, fun t ht => by rw [zU_ne (by omega), xi_ne (by decide)]; exact a5 t ht, fun d hd => ?_⟩
  obtain ⟨b1, b2, b3, b4, b5, b6⟩ := a6 d hd
  have kk : xm_i (xm_si h 203 c v) 203 d = zU S (3 + 6 * c) v (3 + 6 * d) := by
    by_cases e : d = c
    · rw [e, zU_eq]
      exact xi_eq
    · rw [zU_ne (by omega)]
      exact (xi_nk e).trans b1
  exact ⟨kk, (by rw [zU_ne (by omega)]; exact (xi_ne (by omega)).trans b2), (by rw [zU_ne (by omega)]; exact (xi_ne (by omega)).trans b3), (by rw [zU_ne (by omega)]; exact (xi_ne (by omega)).trans b4), (by rw [zU_ne (by omega)]; exact (xi_ne (by omega)).trans b5), (by rw [zU_ne (by omega)]; exact (xi_ne (by omega)).trans b6)⟩
theorem zRS_s1 {c : Nat} {v : Int32} (hc8 : c < 8) (hR : zRS 201 nc nt S T h) : zRS 201 nc nt (zU S (3 + 6 * c + 1) v) T (xm_si h 204 c v) := by
  obtain ⟨a1, a2, a3, a4, a5, a6⟩ := hR
  refine ⟨by rw [zU_ne (by omega), xi_ne (by decide)]; exact a1, by rw [zU_ne (by omega), xi_ne (by decide)]; exact a2, by rw [zU_ne (by omega), xi_ne (by decide)]; exact a3, by rw [zU_ne (by omega), xi_ne (by decide)]; exact a4, fun t ht => by rw [zU_ne (by omega), xi_ne (by decide)]; exact a5 t ht, fun d hd => ?_⟩
  obtain ⟨b1, b2, b3, b4, b5, b6⟩ := a6 d hd
  have kk : xm_i (xm_si h 204 c v) 204 d = zU S (3 + 6 * c + 1) v (3 + 6 * d + 1) := by
    by_cases e : d = c
    · rw [e, zU_eq]
      exact xi_eq
    · rw [zU_ne (by omega)]
      exact (xi_nk e).trans b2
  exact ⟨(by rw [zU_ne (by omega)]; exact (xi_ne (by omega)).trans b1), kk, (by rw [zU_ne (by omega)]; exact (xi_ne (by omega)).trans b3), (by rw [zU_ne (by omega)]; exact (xi_ne (by omega)).trans b4), (by rw [zU_ne (by omega)]; exact (xi_ne (by omega)).trans b5), (by rw [zU_ne (by omega)]; exact (xi_ne (by omega)).trans b6)⟩
theorem zRS_s4 {c : Nat} {v : Int32} (hc8 : c < 8) (hR : zRS 201 nc nt S T h) : zRS 201 nc nt (zU S (3 + 6 * c + 4) v) T (xm_si h 205 c v) := by
  obtain ⟨a1, a2, a3, a4, a5, a6⟩ := hR
  refine ⟨by rw [zU_ne (by omega), xi_ne (by decide)]; exact a1, by rw [zU_ne (by omega), xi_ne (by decide)]; exact a2, by rw [zU_ne (by omega), xi_ne (by decide)]; exact a3, by rw [zU_ne (by omega), xi_ne (by decide)]; exact a4, fun t ht => by rw [zU_ne (by omega), xi_ne (by decide)]; exact a5 t ht, fun d hd => ?_⟩
  obtain ⟨b1, b2, b3, b4, b5, b6⟩ := a6 d hd
  have kk : xm_i (xm_si h 205 c v) 205 d = zU S (3 + 6 * c + 4) v (3 + 6 * d + 4) := by
    by_cases e : d = c
    · rw [e, zU_eq]
      exact xi_eq
    · rw [zU_ne (by omega)]
      exact (xi_nk e).trans b3
  exact ⟨(by rw [zU_ne (by omega)]; exact (xi_ne (by omega)).trans b1), (by rw [zU_ne (by omega)]; exact (xi_ne (by omega)).trans b2), kk, (by rw [zU_ne (by omega)]; exact (xi_ne (by omega)).trans b4), (by rw [zU_ne (by omega)]; exact (xi_ne (by omega)).trans b5), (by rw [zU_ne (by omega)]; exact (xi_ne (by omega)).trans b6)⟩
theorem zRS_s2 {c : Nat} {v : Int32} (hc8 : c < 8) (hR : zRS 201 nc nt S T h) : zRS 201 nc nt (zU S (3 + 6 * c + 2) v) T (xm_si h 206 c v) := by
  obtain ⟨a1, a2, a3, a4, a5, a6⟩ := hR
  refine ⟨by rw [zU_ne (by omega), xi_ne (by decide)]; exact a1, by rw [zU_ne (by omega), xi_ne (by decide)]; exact a2, by rw [zU_ne (by omega), xi_ne (by decide)]; exact a3, by rw [zU_ne (by omega), xi_ne (by decide)]; exact a4, fun t ht => by rw [zU_ne (by omega), xi_ne (by decide)]; exact a5 t ht, fun d hd => ?_⟩
  obtain ⟨b1, b2, b3, b4, b5, b6⟩ := a6 d hd
  have kk : xm_i (xm_si h 206 c v) 206 d = zU S (3 + 6 * c + 2) v (3 + 6 * d + 2) := by
    by_cases e : d = c
    · rw [e, zU_eq]
      exact xi_eq
    · rw [zU_ne (by omega)]
      exact (xi_nk e).trans b4
  exact ⟨(by rw [zU_ne (by omega)]; exact (xi_ne (by omega)).trans b1), (by rw [zU_ne (by omega)]; exact (xi_ne (by omega)).trans b2), (by rw [zU_ne (by omega)]; exact (xi_ne (by omega)).trans b3), kk, (by rw [zU_ne (by omega)]; exact (xi_ne (by omega)).trans b5), (by rw [zU_ne (by omega)]; exact (xi_ne (by omega)).trans b6)⟩
theorem zRS_s3 {c : Nat} {v : Int32} (hc8 : c < 8) (hR : zRS 201 nc nt S T h) : zRS 201 nc nt (zU S (3 + 6 * c + 3) v) T (xm_si h 207 c v) := by
  obtain ⟨a1, a2, a3, a4, a5, a6⟩ := hR
  refine ⟨by rw [zU_ne (by omega), xi_ne (by decide)]; exact a1, by rw [zU_ne (by omega), xi_ne (by decide)]; exact a2, by rw [zU_ne (by omega), xi_ne (by decide)]; exact a3, by rw [zU_ne (by omega), xi_ne (by decide)]; exact a4, fun t ht => by rw [zU_ne (by omega), xi_ne (by decide)]; exact a5 t ht, fun d hd => ?_⟩
  obtain ⟨b1, b2, b3, b4, b5, b6⟩ := a6 d hd
  have kk : xm_i (xm_si h 207 c v) 207 d = zU S (3 + 6 * c + 3) v (3 + 6 * d + 3) := by
    by_cases e : d = c
    · rw [e, zU_eq]
      exact xi_eq
    · rw [zU_ne (by omega)]
      exact (xi_nk e).trans b5
  exact ⟨(by rw [zU_ne (by omega)]; exact (xi_ne (by omega)).trans b1), (by rw [zU_ne (by omega)]; exact (xi_ne (by omega)).trans b2), (by rw [zU_ne (by omega)]; exact (xi_ne (by omega)).trans b3), (by rw [zU_ne (by omega)]; exact (xi_ne (by omega)).trans b4), kk, (by rw [zU_ne (by omega)]; exact (xi_ne (by omega)).trans b6)⟩
theorem zRS_s5 {c : Nat} {v : Int32} (hc8 : c < 8) (hR : zRS 201 nc nt S T h) : zRS 201 nc nt (zU S (3 + 6 * c + 5) v) T (xm_si h 208 c v) := by
  obtain ⟨a1, a2, a3, a4, a5, a6⟩ := hR
  refine ⟨by rw [zU_ne (by omega), xi_ne (by decide)]; exact a1, by rw [zU_ne (by omega), xi_ne (by decide)]; exact a2, by rw [zU_ne (by omega), xi_ne (by decide)]; exact a3, by rw [zU_ne (by omega), xi_ne (by decide)]; exact a4, fun t ht => by rw [zU_ne (by omega), xi_ne (by decide)]; exact a5 t ht, fun d hd => ?_⟩
  obtain ⟨b1, b2, b3, b4, b5, b6⟩ := a6 d hd
  have kk : xm_i (xm_si h 208 c v) 208 d = zU S (3 + 6 * c + 5) v (3 + 6 * d + 5) := by
    by_cases e : d = c
    · rw [e, zU_eq]
      exact xi_eq
    · rw [zU_ne (by omega)]
      exact (xi_nk e).trans b6
  exact ⟨(by rw [zU_ne (by omega)]; exact (xi_ne (by omega)).trans b1), (by rw [zU_ne (by omega)]; exact (xi_ne (by omega)).trans b2), (by rw [zU_ne (by omega)]; exact (xi_ne (by omega)).trans b3), (by rw [zU_ne (by omega)]; exact (xi_ne (by omega)).trans b4), (by rw [zU_ne (by omega)]; exact (xi_ne (by omega)).trans b5), kk⟩
theorem zRS_sF {t : Nat} {v : Int32} (hnc : nc ≤ 8) (hR : zRS 201 nc nt S T h) : zRS 201 nc nt (zU S (51 + t) v) T (xm_si h 202 t v) := by
  obtain ⟨a1, a2, a3, a4, a5, a6⟩ := hR
  refine ⟨by rw [zU_ne (by omega), xi_ne (by decide)]; exact a1, by rw [zU_ne (by omega), xi_ne (by decide)]; exact a2, by rw [zU_ne (by omega), xi_ne (by decide)]; exact a3, by rw [zU_ne (by omega), xi_ne (by decide)]; exact a4, fun t' ht => ?_, fun d hd => ?_⟩
  · by_cases e : t' = t
    · rw [e, zU_eq]
      exact xi_eq
    · rw [zU_ne (by omega)]
      exact (xi_nk e).trans (a5 t' ht)
  · obtain ⟨b1, b2, b3, b4, b5, b6⟩ := a6 d hd
    exact ⟨by rw [zU_ne (by omega)]; exact (xi_ne (by omega)).trans b1, by rw [zU_ne (by omega)]; exact (xi_ne (by omega)).trans b2, by rw [zU_ne (by omega)]; exact (xi_ne (by omega)).trans b3, by rw [zU_ne (by omega)]; exact (xi_ne (by omega)).trans b4, by rw [zU_ne (by omega)]; exact (xi_ne (by omega)).trans b5, by rw [zU_ne (by omega)]; exact (xi_ne (by omega)).trans b6⟩
def zWCc (c : Nat) (S : zV) : Prop := zB 1 999 (S (3 + 6 * c)) ∧ zB 1 9999 (S (3 + 6 * c + 1)) ∧ (∃ sp bu, S (3 + 6 * c + 2) = nI sp ∧ S (3 + 6 * c + 1) = nI bu ∧ sp ≤ bu ∧ bu ≤ 9999) ∧ zB 10 100 (S (3 + 6 * c + 3)) ∧ zB 0 2 (S (3 + 6 * c + 4)) ∧ zB 0 1 (S (3 + 6 * c + 5))
theorem zWC_at {S' : zV} {c : Nat} (hC : zWC nc S) (hag : ∀ d, d ≠ c → ∀ w, w < 6 → S' (3 + 6 * d + w) = S (3 + 6 * d + w)) (hat : zWCc c S') : zWC nc S' := by
  intro d hd
  by_cases e : d = c
  · rw [e]
    exact hat
  · have g := hag d e
    have := hC d hd
    have g0 : S' (3 + 6 * d) = S (3 + 6 * d) := g 0 (by omega)
    rw [← g0, ← g 1 (by omega), ← g 2 (by omega), ← g 3 (by omega), ← g 4 (by omega), ← g 5 (by omega)] at this
    exact this
theorem zbtL (lo hi : Int32) (y : Int32) (g : xm_H) {lo64 hi64 : Int64} (e1 : lo64 = lo.toInt64) (e2 : hi64 = hi.toInt64) : f_X11_between (Int32.toInt64 y) lo64 hi64 g = some (zbt y lo hi, g) := by
  rw [e1, e2, zs_btw]
theorem zo_setBid (hN : 20000 ≤ N) (hI : zInv ρ δ nc nt nf na n nv ne la nb bo no cap L xs h) : zOp (f_L_setBid ρ x y h) (f_X11_setBid N x y) (zPo L xs h) := by
  have hn := hI.n
  have hnc := hI.wt.1
  have hb := fun g => zbtL 1 999 y g (lo64 := 1) (hi64 := 999) rfl rfl
  rcases zix x (n := nc) (by omega) with hx | ⟨c, hc, rfl⟩
  · refine (zop_bad (h := h) (k := 1) (b := 0) zks14 (by decide) ?_ ?_).mono (fun g hg => hg.po hI)
    · unfold f_L_setBid f_X10_setBid
      rw [zq_C0 hI.c7 hx, xe_inr, xe_inr]
      rfl
    · unfold f_X11_setBid
      rw [zq_isC0 (n := nc) (by rw [xi_new (by omega)]; exact hI.T14) (by omega) hx, xb_some, hb, xb_some, zs_good_0, xb_some]
      rfl
  rcases zq_ix1 y (n := 999) (by omega) with hy | ⟨k, hk1, hk2, rfl⟩
  · have hy' : y < 1 ∨ 999 < y := hy
    refine (zop_bad (h := h) (k := 2) (b := 0) zks15 (by decide) ?_ ?_).mono (fun g hg => hg.po hI)
    · unfold f_L_setBid f_X10_setBid
      rw [zq_C1 hI.c7 (by omega) hc, xe_inl, zq_R0 hy', xe_inr, xe_inr]
      rfl
    · unfold f_X11_setBid
      rw [zq_isC1 (n := nc) (by rw [xi_new (by omega)]; exact hI.T14) (by omega) hc, xb_some, hb, xb_some, zbt_0 hy', zs_good_1, xb_some]
      rfl
  obtain ⟨h1, r1, r2, r3, r4⟩ := zc_rem hI
  have hF : zF (fun a _ => 201 ≤ a ∧ a ≤ 208) h1 (xm_si h1 203 c (nI k)) := zF.si (by omega)
  have eold : xm_i h1 203 c = xm_i h 303 (3 + 6 * c) := (r3.2.2.1.2.2.2.2.2 c hc).1
  have hl1 : ¬ nI k < 1 := nI_nlt (b := 1) (by omega) (by omega)
  have hl2 : ¬ (999 : Int32) < nI k := nI_nlt (a := 999) (by omega) (by omega)
  obtain ⟨hr, s1, s2, s3⟩ := zm_rem (N := N) (v := Int32.toInt64 (xm_i h 303 (3 + 6 * c))) hN hI r2 (hF.mono (fun a k z => Or.inr (Or.inl z)))
  have hS' : xm_i (xm_si hr 303 (3 + 6 * c) (nI k)) 303 = zU (xm_i h 303) (3 + 6 * c) (nI k) := by rw [zU_si, s3.1]
  refine zed_set (hm := xm_si hr 303 (3 + 6 * c) (nI k)) hI r2 hF ?_ s2 s3 ?_ (zF.si ⟨rfl, by omega, by omega⟩) ?_ ?_ ?_ ?_
  · unfold f_L_setBid f_X10_setBid
    rw [zq_C1 hI.c7 (by omega) hc, xe_inl, zq_R1 hl1 hl2, xe_inl, r1, xb_some, if_pos (zb_in (by omega) (by decide)), nI_clamp (by omega)]
    simp only [xl]
    rw [xe_inl, eold]
  · unfold f_X11_setBid
    rw [zq_isC1 (n := nc) (by rw [xi_sl, xi_ne (by decide), r2.1.i (by unfold zA1; omega)]; exact hI.T14) (by omega) hc, xb_some, hb, xb_some, zbt_1 hl1 hl2, zs_good_2, xb_some, if_neg (by decide), s1, xb_some, zs_of0 (by omega), xb_some, zs_set0 (by omega), xb_some, s3.1]
  · rw [hS']
    obtain ⟨b1, b2, b3, b4, b5, b6⟩ := hI.ws.2.2.2.2.2.1 c hc
    exact zWC_at (c := c) hI.ws.2.2.2.2.2.1 (fun d hd w hw => zU_ne (by omega)) ⟨by rw [zU_eq]; exact ⟨k, hk1, hk2, rfl⟩, by rw [zU_ne (by omega)]; exact b2, by rw [zU_ne (by omega), zU_ne (by omega)]; exact b3, by rw [zU_ne (by omega)]; exact b4, by rw [zU_ne (by omega)]; exact b5, by rw [zU_ne (by omega)]; exact b6⟩
  · intro t ht
    rw [hS', zU_ne (by omega)]
    exact hI.ws.2.2.2.2.2.2.1 t ht
  · rw [hS']
    exact zRS_s0 (by omega) r3.2.2.1
  · intro i hi
    rw [xi_ne (by decide)]
    exact r4 i hi
theorem zo_setMode (hN : 20000 ≤ N) (hI : zInv ρ δ nc nt nf na n nv ne la nb bo no cap L xs h) : zOp (f_L_setMode ρ x y h) (f_X11_setMode N x y) (zPo L xs h) := by
  have hn := hI.n
  have hnc := hI.wt.1
  have hb := fun g => zbtL 0 2 y g (lo64 := 0) (hi64 := 2) rfl rfl
  rcases zix x (n := nc) (by omega) with hx | ⟨c, hc, rfl⟩
  · refine (zop_bad (h := h) (k := 1) (b := 0) zks14 (by decide) ?_ ?_).mono (fun g hg => hg.po hI)
    · unfold f_L_setMode f_X10_setMode
      rw [zq_C0 hI.c7 hx, xe_inr, xe_inr]
      rfl
    · unfold f_X11_setMode
      rw [zq_isC0 (n := nc) (by rw [xi_new (by omega)]; exact hI.T14) (by omega) hx, xb_some, hb, xb_some, zs_good_0, xb_some]
      rfl
  rcases zix y (n := 3) (by omega) with hy | ⟨k, hk, rfl⟩
  · have hy' : y < 0 ∨ 2 < y := hy.imp id (fun z => zlt_m1 (n := 3) (by omega) z)
    refine (zop_bad (h := h) (k := 2) (b := 0) zks15 (by decide) ?_ ?_).mono (fun g hg => hg.po hI)
    · unfold f_L_setMode f_X10_setMode
      rw [zq_C1 hI.c7 (by omega) hc, xe_inl, zq_R0 hy', xe_inr, xe_inr]
      rfl
    · unfold f_X11_setMode
      rw [zq_isC1 (n := nc) (by rw [xi_new (by omega)]; exact hI.T14) (by omega) hc, xb_some, hb, xb_some, zbt_0 hy', zs_good_1, xb_some]
      rfl
  obtain ⟨h1, r1, r2, r3, r4⟩ := zc_rem hI
  have hF : zF (fun a _ => 201 ≤ a ∧ a ≤ 208) h1 (xm_si (xm_si h1 205 c (nI k)) 207 c 100) := (zF.si (by omega)).st (by omega)
  have eold : xm_i h1 205 c = xm_i h 303 (3 + 6 * c + 4) := (r3.2.2.1.2.2.2.2.2 c hc).2.2.1
  have hl1 : ¬ nI k < 0 := nI_pos (by omega)
  have hl2 : ¬ (2 : Int32) < nI k := nI_nlt (a := 2) (by omega) (by omega)
  obtain ⟨hr, s1, s2, s3⟩ := zm_rem (N := N) (v := Int32.toInt64 (xm_i h 303 (3 + 6 * c + 4))) hN hI r2 (hF.mono (fun a k z => Or.inr (Or.inl z)))
  have hS' : xm_i (xm_si (xm_si hr 303 (3 + 6 * c + 4) (nI k)) 303 (3 + 6 * c + 3) 100) 303 = zU (zU (xm_i h 303) (3 + 6 * c + 4) (nI k)) (3 + 6 * c + 3) 100 := by rw [zU_si, zU_si, s3.1]
  refine zed_set (hm := xm_si (xm_si hr 303 (3 + 6 * c + 4) (nI k)) 303 (3 + 6 * c + 3) 100) hI r2 hF ?_ s2 s3 ?_ ((zF.si ⟨rfl, by omega, by omega⟩).st ⟨rfl, by omega, by omega⟩) ?_ ?_ ?_ ?_
  · unfold f_L_setMode f_X10_setMode f_X7_changeMode
    rw [zq_C1 hI.c7 (by omega) hc, xe_inl, zq_R1 hl1 hl2, xe_inl, r1, xb_some, if_pos (zb_in (by omega) (by decide)), if_pos (zb_in (by omega) (by decide)), nI_clamp (by omega)]
    simp only [xl]
    rw [xb_some, xe_inl, eold]
  · unfold f_X11_setMode
    rw [zq_isC1 (n := nc) (by rw [xi_sl, xi_ne (by decide), xi_ne (by decide), r2.1.i (by unfold zA1; omega)]; exact hI.T14) (by omega) hc, xb_some, hb, xb_some, zbt_1 hl1 hl2, zs_good_2, xb_some, if_neg (by decide), s1, xb_some, zs_of4 (by omega), xb_some, zs_set4 (by omega), xb_some, zs_set3 (by omega), xb_some, s3.1]
  · rw [hS']
    obtain ⟨b1, b2, b3, b4, b5, b6⟩ := hI.ws.2.2.2.2.2.1 c hc
    refine zWC_at (c := c) hI.ws.2.2.2.2.2.1 (fun d hd w hw => by rw [zU_ne (by omega), zU_ne (by omega)]) ⟨by rw [zU_ne (by omega), zU_ne (by omega)]; exact b1, by rw [zU_ne (by omega), zU_ne (by omega)]; exact b2, ?_, by rw [zU_eq]; exact ⟨100, by omega, by omega, rfl⟩, by rw [zU_ne (by omega), zU_eq]; exact ⟨k, by omega, by omega, rfl⟩, by rw [zU_ne (by omega), zU_ne (by omega)]; exact b6⟩
    rw [zU_ne (by omega), zU_ne (by omega), zU_ne (by omega), zU_ne (by omega)]
    exact b3
  · intro t ht
    rw [hS', zU_ne (by omega), zU_ne (by omega)]
    exact hI.ws.2.2.2.2.2.2.1 t ht
  · rw [hS']
    exact zRS_s3 (by omega) (zRS_s4 (by omega) r3.2.2.1)
  · intro i hi
    rw [xi_ne (by decide), xi_ne (by decide)]
    exact r4 i hi
theorem zo_setFloor (hN : 20000 ≤ N) (hI : zInv ρ δ nc nt nf na n nv ne la nb bo no cap L xs h) : zOp (f_L_setFloor ρ x y h) (f_X11_setFloor N x y) (zPo L xs h) := by
  have hn := hI.n
  have hnc := hI.wt.1
  have hnt := hI.wt.2.1
  have hb := fun g => zbtL 0 999 y g (lo64 := 0) (hi64 := 999) rfl rfl
  rcases zix x (n := nt) (by omega) with hx | ⟨t, ht, rfl⟩
  · refine (zop_bad (h := h) (k := 1) (b := 0) zks14 (by decide) ?_ ?_).mono (fun g hg => hg.po hI)
    · unfold f_L_setFloor f_X10_setFloor
      rw [zq_T0 hI.t5 hx, xe_inr, xe_inr]
      rfl
    · unfold f_X11_setFloor
      rw [zq_isT0 (n := nt) (by rw [xi_new (by omega)]; exact hI.T7) (by omega) hx, xb_some, hb, xb_some, zs_good_0, xb_some]
      rfl
  rcases zix y (n := 1000) (by omega) with hy | ⟨k, hk, rfl⟩
  · have hy' : y < 0 ∨ 999 < y := hy.imp id (fun z => zlt_m1 (n := 1000) (by omega) z)
    refine (zop_bad (h := h) (k := 2) (b := 0) zks15 (by decide) ?_ ?_).mono (fun g hg => hg.po hI)
    · unfold f_L_setFloor f_X10_setFloor
      rw [zq_T1 hI.t5 (by omega) ht, xe_inl, zq_R0 hy', xe_inr, xe_inr]
      rfl
    · unfold f_X11_setFloor
      rw [zq_isT1 (n := nt) (by rw [xi_new (by omega)]; exact hI.T7) (by omega) ht, xb_some, hb, xb_some, zbt_0 hy', zs_good_1, xb_some]
      rfl
  obtain ⟨h1, r1, r2, r3, r4⟩ := zc_rem hI
  have hF : zF (fun a _ => 201 ≤ a ∧ a ≤ 208) h1 (xm_si h1 202 t (nI k)) := zF.si (by omega)
  have eold : xm_i h1 202 t = xm_i h 303 (51 + t) := r3.2.2.1.2.2.2.2.1 t ht
  have hl1 : ¬ nI k < 0 := nI_pos (by omega)
  have hl2 : ¬ (999 : Int32) < nI k := nI_nlt (a := 999) (by omega) (by omega)
  obtain ⟨hr, s1, s2, s3⟩ := zm_rem (N := N) (v := Int32.toInt64 (xm_i h 303 (51 + t))) hN hI r2 (hF.mono (fun a k z => Or.inr (Or.inl z)))
  have hS' : xm_i (xm_si hr 303 (51 + t) (nI k)) 303 = zU (xm_i h 303) (51 + t) (nI k) := by rw [zU_si, s3.1]
  refine zed_set (hm := xm_si hr 303 (51 + t) (nI k)) hI r2 hF ?_ s2 s3 ?_ (zF.si ⟨rfl, by omega, by omega⟩) ?_ ?_ ?_ ?_
  · unfold f_L_setFloor f_X10_setFloor
    rw [zq_T1 hI.t5 (by omega) ht, xe_inl, zq_R1 hl1 hl2, xe_inl, r1, xb_some, if_pos (zb_in (by omega) (by decide)), nI_clamp (by omega)]
    simp only [xl]
    rw [xe_inl, eold]
  · unfold f_X11_setFloor
    rw [zq_isT1 (n := nt) (by rw [xi_sl, xi_ne (by decide), r2.1.i (by unfold zA1; omega)]; exact hI.T7) (by omega) ht, xb_some, hb, xb_some, zbt_1 hl1 hl2, zs_good_2, xb_some, if_neg (by decide), s1, xb_some, show (51 : Int32) + nI t = nI (51 + t) from nI_add 51 t, if_pos (zb_in (by omega) (by decide)), nI_clamp (by omega), s3.1]
    rfl
  · rw [hS']
    intro c hc
    have := hI.ws.2.2.2.2.2.1 c hc
    rw [zU_ne (by omega), zU_ne (by omega), zU_ne (by omega), zU_ne (by omega), zU_ne (by omega), zU_ne (by omega)]
    exact this
  · intro t' ht'
    rw [hS']
    by_cases e : t' = t
    · rw [e, zU_eq]
      exact ⟨k, by omega, by omega, rfl⟩
    · rw [zU_ne (by omega)]
      exact hI.ws.2.2.2.2.2.2.1 t' ht'
  · rw [hS']
    exact zRS_sF hnc r3.2.2.1
  · intro i hi
    rw [xi_ne (by decide)]
    exact r4 i hi
end Set
