/-! the least bid: the reference's search, and the call -/
section Least2
variable {N ρ δ nc nt nf na n nv ne la nb bo no cap L : Nat} {xs : zV} {h : xm_H} {x y z w : Int32}
theorem zs_isWinner {c : Nat} {W : List Nat} (hN : 1000 ≤ N) (hW4 : W.length ≤ 4) (hW : ∀ x ∈ W, x < 8) (hc : c < 8) (hct : xm_i h 302 28 = nI W.length) (hR : zRow (xm_i h 313) W) : f_X11_isWinner N (nI c) h = some (zi (W.any fun w => decide (w = c)), h) := by
  unfold f_X11_isWinner
  refine zlp0 (N := N) (F := fun n s => f_X11_isWinner_4 N (nI c) n s.1 s.2.1 s.2.2) (I := fun i s => s = (zi ((W.take i).any fun w => decide (w = c)), nI i, h)) (L := W.length) (s := (0, 0, h)) (by omega) (by simp [zi]; rfl) ?_ ?_
  · intro m i s hi hs
    subst hs
    refine ⟨_, rfl, ?_⟩
    show f_X11_isWinner_4B N (nI c) (f_X11_isWinner_4 N (nI c) m) _ (nI i) h = f_X11_isWinner_4 N (nI c) m _ (nI (i + 1)) h
    generalize f_X11_isWinner_4 N (nI c) m = rec
    have hx := List.getElem?_eq_getElem hi
    have hx8 := hW _ (List.getElem_mem hi)
    have hr := hR i _ hx
    rw [zany_take _ hx]
    generalize W[i] = x at *
    generalize (W.take i).any (fun w => decide (w = c)) = b
    dsimp only
    unfold f_X11_isWinner_4B
    rw [hct, if_pos (nI_lt hi (by omega)), nI_1]
    simp only [nI_clamp (show i < 2 ^ 31 by omega), hr]
    cases b with
    | true => rw [if_neg (by decide : ¬ zi true = 0)]; rfl
    | false =>
      rw [if_pos (by decide : zi false = 0), if_pos (zb_in (by omega) (by decide))]
      by_cases h3 : x = c
      · rw [if_pos (by rw [h3]), h3]
        simp [zi]
      · rw [if_neg (fun z => h3 ((nI_eq (by omega) (by omega)).mp z))]
        simp [zi, h3]
  · intro m s hs
    subst hs
    show f_X11_isWinner_4B N (nI c) (f_X11_isWinner_4 N (nI c) m) _ (nI W.length) h = _
    unfold f_X11_isWinner_4B
    rw [hct, if_neg (nI_nlt (Nat.le_refl _) (by omega)), List.take_length]
    exact if_pos (zi_01 _)
theorem zF.back {A : Nat → Nat → Prop} {a0 k0 : Nat} {h h1 : xm_H} (e : zF (fun a k => A a k ∨ (a = a0 ∧ k = k0)) h h1) : zF A h (xm_si h1 a0 k0 (xm_i h a0 k0)) := ⟨e.1, e.2.1, e.2.2.1, fun a k hn => by
  by_cases hk : a = a0 ∧ k = k0
  · rw [hk.1, hk.2, xi_eq]
  · rw [xi_si, if_neg hk]
    exact e.i (fun z => z.elim hn hk)⟩
/-- one try -/
theorem zs_try {c t k b : Nat} {u : Int32} {h0 h1 : xm_H} (hN : 1000 ≤ N) (hk : k ≤ 4) (ht : t < 6) (hna : na ≤ 8) (hnc : nc ≤ 8) (hc : c < nc) (hn : n ≤ 400) (hT : xm_i h0 308 63 = nI na) (hC : xm_i h0 308 14 = nI nc) (hS : xm_i h0 303 1 = nI n) (hd : ¬ xm_i h0 308 0 = 0) (e : zF (fun a k => zsM a k ∨ (a = 303 ∧ k = 3 + 6 * c)) h0 h1) : ∃ h2, (xb (f_X11_set (nI c) (0 : Int32) (nI b) h1) fun _ h4 => (xb (f_X11_auction N u (nI t) (nI k) h4) fun _ h7 => f_X11_isWinner N (nI c) h7)) = some (zi (zWn (xm_i h0 303) (xm_i h0 308) na n u t nc k c b), h2) ∧ zF (fun a k => zsM a k ∨ (a = 303 ∧ k = 3 + 6 * c)) h0 h2 := by
  rw [zs_set0 (by omega), xb_some]
  have e1 : zF (fun a k => zsM a k ∨ (a = 303 ∧ k = 3 + 6 * c)) h0 (xm_si h1 303 (3 + 6 * c) (nI b)) := e.st (Or.inr ⟨rfl, rfl⟩)
  have hrS : xm_i (xm_si h1 303 (3 + 6 * c) (nI b)) 303 = zU (xm_i h0 303) (3 + 6 * c) (nI b) := by
    funext j
    unfold zU
    by_cases hj : j = 3 + 6 * c
    · rw [if_pos hj, hj, xi_eq]
    · rw [if_neg hj]
      rw [e1.i (fun z => by unfold zsM at z; omega)]
  have hrT : xm_i (xm_si h1 303 (3 + 6 * c) (nI b)) 308 = xm_i h0 308 := e1.row (fun k z => by unfold zsM at z; omega)
  obtain ⟨h3, a1, a2, a3, a4, a5⟩ := zs_auction (N := N) (n := n) (na := na) (nc := nc) (t := t) (k := k) (u := u) (h := xm_si h1 303 (3 + 6 * c) (nI b)) hN hk ht hna hnc hn (by rw [hrT]; exact hT) (by rw [hrT]; exact hC) (by rw [hrS, zU_ne (by omega)]; exact hS) (by rw [hrT]; exact hd)
  rw [a1, xb_some]
  rw [hrS, hrT] at a5
  have hWl : (zW (zU (xm_i h0 303) (3 + 6 * c) (nI b)) (xm_i h0 308) na n u t nc k).length ≤ k := zFl_len (by simp)
  have hw := zs_isWinner (N := N) (h := h3) (c := c) (W := (zW (zU (xm_i h0 303) (3 + 6 * c) (nI b)) (xm_i h0 308) na n u t nc k).map fun w => w.2) hN (by rw [List.length_map]; omega) (by
    intro x hx
    obtain ⟨w, hw, rfl⟩ := List.mem_map.mp hx
    obtain ⟨V, hV1, hV2⟩ := @zFl_pre (zAp (xm_i h0 308) na) k (zL (zU (xm_i h0 303) (3 + 6 * c) (nI b)) (xm_i h0 308) n u t nc) 0 []
    unfold zW at hw
    rw [hV1, List.nil_append] at hw
    have := (zRk_mem.mp (hV2 w hw)).1
    omega) (by omega) (by rw [List.length_map]; exact a5.1) a5.2.1
  refine ⟨h3, ?_, e1.tr (a2.mono (fun a k z => Or.inl z))⟩
  rw [hw, List.any_map]
  rfl
theorem zs_least {c t k : Nat} {u v12 : Int32} {h : xm_H} (hN : 2000 ≤ N) (hk : k ≤ 4) (ht : t < 6) (hna : na ≤ 8) (hnc : nc ≤ 8) (hc : c < nc) (hn : n ≤ 400) (hT : xm_i h 308 63 = nI na) (hC : xm_i h 308 14 = nI nc) (hS : xm_i h 303 1 = nI n) (hd : ¬ xm_i h 308 0 = 0) {v : Int32} (hv : (∃ b0, 1 ≤ b0 ∧ b0 ≤ 999 ∧ v = nI b0 ∧ zWn (xm_i h 303) (xm_i h 308) na n u t nc k c b0 = true ∧ ∀ b, 1 ≤ b → b < b0 → zWn (xm_i h 303) (xm_i h 308) na n u t nc k c b = false) ∨ (v = -1 ∧ ∀ b, 1 ≤ b → b ≤ 999 → zWn (xm_i h 303) (xm_i h 308) na n u t nc k c b = false)) : ∃ h2, (∀ K, f_X11_leastBid_51 N (nI c) u (nI t) (nI k) v12 K N (-1) 1 h = K v h2) ∧ zF (fun a k => zsM a k ∨ (a = 303 ∧ k = 3 + 6 * c)) h h2 := by
  have lp : ∀ Lm, Lm ≤ 999 → (∀ b, 1 ≤ b → b ≤ Lm → zWn (xm_i h 303) (xm_i h 308) na n u t nc k c b = false) → ∃ m h1, (∀ K, f_X11_leastBid_51 N (nI c) u (nI t) (nI k) v12 K N (-1) 1 h = f_X11_leastBid_51 N (nI c) u (nI t) (nI k) v12 K (m + 2) (-1) (nI (Lm + 1)) h1) ∧ zF (fun a k => zsM a k ∨ (a = 303 ∧ k = 3 + 6 * c)) h h1 := by
    intro Lm hLm hno
    obtain ⟨⟨c6, c7, h1⟩, ⟨e1, e2, e3⟩, hE⟩ := zlp (F := fun n s => fun K => f_X11_leastBid_51 N (nI c) u (nI t) (nI k) v12 K n s.1 s.2.1 s.2.2) (I := fun i s => s.1 = -1 ∧ s.2.1 = nI (i + 1) ∧ zF (fun a k => zsM a k ∨ (a = 303 ∧ k = 3 + 6 * c)) h s.2.2) (L := Lm) (by
      rintro m i ⟨c6, c7, h1⟩ hi ⟨e1, e2, e3⟩
      dsimp only at e1 e2 e3 ⊢
      subst e1
      subst e2
      obtain ⟨h2, g1, g2⟩ := zs_try (N := N) (na := na) (nc := nc) (n := n) (c := c) (t := t) (k := k) (b := i + 1) (u := u) (h0 := h) (h1 := h1) (by omega) hk ht hna hnc hc hn hT hC hS hd e3
      rw [hno (i + 1) (by omega) (by omega)] at g1
      refine ⟨(-1, nI (i + 2), h2), ⟨rfl, rfl, g2⟩, ?_⟩
      funext K
      show f_X11_leastBid_51B N (nI c) u (nI t) (nI k) v12 K (f_X11_leastBid_51 N (nI c) u (nI t) (nI k) v12 K m) (-1) (nI (i + 1)) h1 = f_X11_leastBid_51 N (nI c) u (nI t) (nI k) v12 K m (-1) (nI (i + 2)) h2
      generalize f_X11_leastBid_51 N (nI c) u (nI t) (nI k) v12 K m = rec
      unfold f_X11_leastBid_51B
      rw [if_neg (show ¬ (999 : Int32) < nI (i + 1) from nI_nlt (a := 999) (by omega) (by omega)), if_pos rfl]
      rw [zs_set0 (by omega), xb_some] at g1 ⊢
      cases ha : f_X11_auction N u (nI t) (nI k) (xm_si h1 303 (3 + 6 * c) (nI (i + 1))) with
      | none =>
        rw [ha] at g1
        cases g1
      | some p =>
        rw [ha] at g1
        rw [show (some p : Option (Unit × xm_H)) = some (p.1, p.2) from rfl, xb_some] at g1 ⊢
        rw [g1, xb_some, if_pos (by decide : zi false = 0), nI_1]) Lm 0 N (-1, 1, h) (by omega) (by omega) ⟨rfl, rfl, zF.rf⟩
    dsimp only at e1 e2 e3
    subst e1
    subst e2
    refine ⟨N - Lm - 2, h1, fun K => ?_, e3⟩
    refine (congrFun hE K).trans ?_
    rw [show N - Lm - 2 + 2 = N - Lm by omega]
  rcases hv with ⟨b0, hb1, hb2, rfl, hw, hno⟩ | ⟨rfl, hno⟩
  · obtain ⟨m, h1, hE, e3⟩ := lp (b0 - 1) (by omega) (fun b h1 h2 => hno b h1 (by omega))
    obtain ⟨h2, g1, g2⟩ := zs_try (N := N) (na := na) (nc := nc) (n := n) (c := c) (t := t) (k := k) (b := b0) (u := u) (h0 := h) (h1 := h1) (by omega) hk ht hna hnc hc hn hT hC hS hd e3
    rw [hw] at g1
    refine ⟨h2, fun K => ?_, g2⟩
    rw [hE, show b0 - 1 + 1 = b0 by omega]
    have hlast : ∀ g, f_X11_leastBid_51 N (nI c) u (nI t) (nI k) v12 K (m + 1) (nI b0) (nI (b0 + 1)) g = K (nI b0) g := fun g => by
      show f_X11_leastBid_51B N (nI c) u (nI t) (nI k) v12 K (f_X11_leastBid_51 N (nI c) u (nI t) (nI k) v12 K m) (nI b0) (nI (b0 + 1)) g = _
      unfold f_X11_leastBid_51B
      split
      · rfl
      · rw [if_neg]
        intro hz
        have := nI_pos (n := b0) (by omega)
        rw [hz] at this
        exact this (by decide)
    show f_X11_leastBid_51B N (nI c) u (nI t) (nI k) v12 K (f_X11_leastBid_51 N (nI c) u (nI t) (nI k) v12 K (m + 1)) (-1) (nI b0) h1 = _
    generalize f_X11_leastBid_51 N (nI c) u (nI t) (nI k) v12 K (m + 1) = rec at *
    unfold f_X11_leastBid_51B
    rw [if_neg (show ¬ (999 : Int32) < nI b0 from nI_nlt (a := 999) (by omega) (by omega)), if_pos rfl]
    rw [zs_set0 (by omega), xb_some] at g1 ⊢
    cases ha : f_X11_auction N u (nI t) (nI k) (xm_si h1 303 (3 + 6 * c) (nI b0)) with
    | none =>
      rw [ha] at g1
      cases g1
    | some p =>
      rw [ha] at g1
      rw [show (some p : Option (Unit × xm_H)) = some (p.1, p.2) from rfl, xb_some] at g1 ⊢
      rw [g1, xb_some, if_neg (by decide : ¬ zi true = 0), nI_1]
      exact hlast h2
  · obtain ⟨m, h1, hE, e3⟩ := lp 999 (by omega) hno
    refine ⟨h1, fun K => ?_, e3⟩
    rw [hE]
    show f_X11_leastBid_51B N (nI c) u (nI t) (nI k) v12 K (f_X11_leastBid_51 N (nI c) u (nI t) (nI k) v12 K (m + 1)) (-1) (nI 1000) h1 = _
    unfold f_X11_leastBid_51B
    rw [if_pos (show (999 : Int32) < nI 1000 from nI_lt (a := 999) (by omega) (by omega))]
theorem zs_isReq00 (e : xm_i h 308 2 = nI nf) : ∃ b, f_X11_isRequest x y h = some (zi b, h) := by
  unfold f_X11_isRequest
  rw [zs_isUser, xb_some]
  split
  · exact ⟨false, rfl⟩
  · rw [zs_areSlots, xb_some]
    split
    · exact ⟨false, rfl⟩
    · exact ⟨true, rfl⟩
theorem zs_isReqU (hx : x < 0 ∨ nI 16 ≤ x) : f_X11_isRequest x y h = some (0, h) := by
  unfold f_X11_isRequest
  rw [zq_isU0 hx, xb_some, if_pos rfl]
theorem zs_isReqS {u : Nat} (hu : u < 16) (e : xm_i h 308 2 = nI nf) (hy : y < 1 ∨ nI nf < y) : f_X11_isRequest (nI u) y h = some (0, h) := by
  unfold f_X11_isRequest
  rw [zq_isU1 hu, xb_some, if_neg (by decide), zq_arS0 e hy, xb_some, if_pos rfl]
theorem zs_isReq1 {u k : Nat} (hu : u < 16) (e : xm_i h 308 2 = nI nf) (hnf : nf ≤ 4) (h1 : 1 ≤ k) (h2 : k ≤ nf) : f_X11_isRequest (nI u) (nI k) h = some (1, h) := by
  unfold f_X11_isRequest
  rw [zq_isU1 hu, xb_some, if_neg (by decide), zq_arS1 e (by omega) h1 h2, xb_some, if_neg (by decide)]
theorem zo_leastBid (hN : 2000 ≤ N) (hI : zInv ρ δ nc nt nf na n nv ne la nb bo no cap L xs h) : zOp (f_L_leastBid N ρ x y z w h) (f_X11_leastBid N x y z w) (zRO h) := by
  have hn := hI.n
  have hnc := hI.wt.1
  have hnt := hI.wt.2.1
  have hnf := hI.wt.2.2.2.1
  have hn400 := hI.ws.1
  rcases zix x (n := nc) (by omega) with hx | ⟨c, hc, rfl⟩
  · refine zop_bad (k := 1) (b := 0) zks14 (by decide) ?_ ?_
    · unfold f_L_leastBid f_X10_leastBid
      rw [zq_C0 hI.c7 hx, xe_inr, xe_inr]
      rfl
    · obtain ⟨b, hb⟩ := zs_isReq00 (x := y) (y := w) (h := xm_new h (14, 0)) (nf := nf) (by rw [xi_new (by omega)]; exact hI.T2)
      unfold f_X11_leastBid
      rw [zq_isC0 (n := nc) (by rw [xi_new (by omega)]; exact hI.T14) (by omega) hx, xb_some, if_pos rfl, hb, xb_some, zs_good_0, xb_some]
      rfl
  rcases zix z (n := nt) (by omega) with hz | ⟨t, ht, rfl⟩
  · refine zop_bad (k := 1) (b := 0) zks14 (by decide) ?_ ?_
    · unfold f_L_leastBid f_X10_leastBid
      rw [zq_C1 hI.c7 (by omega) hc, xe_inl, zq_T0 hI.t5 hz, xe_inr, xe_inr]
      rfl
    · obtain ⟨b, hb⟩ := zs_isReq00 (x := y) (y := w) (h := xm_new h (14, 0)) (nf := nf) (by rw [xi_new (by omega)]; exact hI.T2)
      unfold f_X11_leastBid
      rw [zq_isC1 (n := nc) (by rw [xi_new (by omega)]; exact hI.T14) (by omega) hc, xb_some, if_neg (by decide), zq_isT0 (n := nt) (by rw [xi_new (by omega)]; exact hI.T7) (by omega) hz, xb_some, if_pos rfl, hb, xb_some, zs_good_0, xb_some]
      rfl
  rcases zix y (n := 16) (by omega) with hy | ⟨u, hu, rfl⟩
  · refine zop_bad (k := 2) (b := 0) zks15 (by decide) ?_ ?_
    · unfold f_L_leastBid f_X10_leastBid
      rw [zq_C1 hI.c7 (by omega) hc, xe_inl, zq_T1 hI.t5 (by omega) ht, xe_inl, zq_U0 hy, xe_inr, xe_inr]
      rfl
    · unfold f_X11_leastBid
      rw [zq_isC1 (n := nc) (by rw [xi_new (by omega)]; exact hI.T14) (by omega) hc, xb_some, if_neg (by decide), zq_isT1 (n := nt) (by rw [xi_new (by omega)]; exact hI.T7) (by omega) ht, xb_some, if_neg (by decide), zs_isReqU hy, xb_some, zs_good_1, xb_some]
      rfl
  rcases zq_ix1 w (n := nf) (by omega) with hw | ⟨k, hk1, hk2, rfl⟩
  · refine zop_bad (k := 2) (b := 0) zks15 (by decide) ?_ ?_
    · unfold f_L_leastBid f_X10_leastBid
      rw [zq_C1 hI.c7 (by omega) hc, xe_inl, zq_T1 hI.t5 (by omega) ht, xe_inl, zq_U1 hu, xe_inl, zq_S0 hI.s3 hw, xe_inr, xe_inr]
      rfl
    · unfold f_X11_leastBid
      rw [zq_isC1 (n := nc) (by rw [xi_new (by omega)]; exact hI.T14) (by omega) hc, xb_some, if_neg (by decide), zq_isT1 (n := nt) (by rw [xi_new (by omega)]; exact hI.T7) (by omega) ht, xb_some, if_neg (by decide), zs_isReqS (nf := nf) hu (by rw [xi_new (by omega)]; exact hI.T2) hw, xb_some, zs_good_1, xb_some]
      rfl
  obtain ⟨_, _, _, ⟨m, m1, m2, m3⟩, _⟩ := hI.ws.2.2.2.2.2.1 c hc
  obtain ⟨fl, f1, f2, f3⟩ := hI.ws.2.2.2.2.2.2.1 t ht
  obtain ⟨h1, q, c1, c2, q1, q2, q3⟩ := zc_leastWin (N := N) (k := k) (u := nI u) (by omega) hI.ra hI.wt hI.ws hc ht hk2 m3 m1 m2 f3 f2
  have hF : zF zscr h h1 := c2.mono (fun a k => zsC_scr)
  have hwn := fun b (h1 : 1 ≤ b) (h2 : b ≤ 999) => zWn_iff (S := xm_i h 303) (T := xm_i h 308) (na := na) (n := n) (u := nI u) (t := t) (nc := nc) (k := k) (c := c) (b := b) (m := m) hnc hc hk1 h1 h2 (by omega) m2 m3 (fun x hx => zef_b hI.ws.2.2.2.2.2.1 hx)
  rw [q3] at hwn
  -- the answer
  have hans : ∀ v, v = (if zRf (xm_i h 303) (xm_i h 308) (nI (zRc (xm_i h 303) (xm_i h 308) c (nI u) n)) c (nI t) (nI ((((max fl q - 1) * 100 / m + 1) * m + 99) / 100)) (xm_i h 303 (51 + t)) = 0 then (if 999 < (max fl q - 1) * 100 / m + 1 then -1 else nI ((max fl q - 1) * 100 / m + 1)) else -1) → (∃ b0, 1 ≤ b0 ∧ b0 ≤ 999 ∧ v = nI b0 ∧ zWn (xm_i h 303) (xm_i h 308) na n (nI u) t nc k c b0 = true ∧ ∀ b, 1 ≤ b → b < b0 → zWn (xm_i h 303) (xm_i h 308) na n (nI u) t nc k c b = false) ∨ (v = -1 ∧ ∀ b, 1 ≤ b → b ≤ 999 → zWn (xm_i h 303) (xm_i h 308) na n (nI u) t nc k c b = false) := by
    intro v hv
    have hbd := fun b => zbid (m := m) (d := max fl q) (b := b) (by omega) (by omega)
    have hB1 : 1 ≤ (max fl q - 1) * 100 / m + 1 := Nat.le_add_left 1 _
    generalize hB : (max fl q - 1) * 100 / m + 1 = B at *
    have hEb : ∀ b, b ≤ 999 → (b * m + 99) / 100 ≤ 2000 := fun b hb => by
      have : b * m ≤ 999 * 100 := Nat.mul_le_mul hb m2
      omega
    have hmono : ∀ b, B ≤ b → (B * m + 99) / 100 ≤ (b * m + 99) / 100 := fun b hb => by
      have : B * m ≤ b * m := Nat.mul_le_mul_right _ hb
      omega
    -- a winning bid is at least B, and B wins too
    have hwin : ∀ b, 1 ≤ b → b ≤ 999 → zWn (xm_i h 303) (xm_i h 308) na n (nI u) t nc k c b = true → B ≤ b ∧ zRf (xm_i h 303) (xm_i h 308) (nI (zRc (xm_i h 303) (xm_i h 308) c (nI u) n)) c (nI t) (nI ((B * m + 99) / 100)) (xm_i h 303 (51 + t)) = 0 := by
      intro b hb1 hb2 hb3
      obtain ⟨w1, w2⟩ := (hwn b hb1 hb2).mp hb3
      have w3 := zRf_iff.mp w1
      have he := hEb b hb2
      have hge : max fl q ≤ (b * m + 99) / 100 := by
        have w4 := w3.2.2
        rw [f3, nI_ltI (by omega) (by omega)] at w4
        rw [nI_ltI (by omega) (by omega)] at w2
        omega
      have hBb := (hbd b).mp hge
      refine ⟨hBb, zRf_iff.mpr ⟨w3.1, ?_, ?_⟩⟩
      · intro hlt
        apply w3.2.1
        have hm1 := hmono b hBb
        rw [Int32.lt_iff_toInt_lt, nI_toInt (by omega)] at hlt ⊢
        omega
      · have := (hbd B).mpr (Nat.le_refl _)
        have hm1 := hmono b hBb
        rw [f3, nI_ltI (by omega) (by omega)]
        omega
    by_cases h0 : zRf (xm_i h 303) (xm_i h 308) (nI (zRc (xm_i h 303) (xm_i h 308) c (nI u) n)) c (nI t) (nI ((B * m + 99) / 100)) (xm_i h 303 (51 + t)) = 0
    · rw [if_pos h0] at hv
      by_cases h9 : 999 < B
      · rw [if_pos h9] at hv
        refine Or.inr ⟨hv, fun b hb1 hb2 => ?_⟩
        cases hb3 : zWn (xm_i h 303) (xm_i h 308) na n (nI u) t nc k c b with
        | false => rfl
        | true =>
          have := (hwin b hb1 hb2 hb3).1
          omega
      · rw [if_neg h9] at hv
        refine Or.inl ⟨B, hB1, by omega, hv, (hwn B hB1 (by omega)).mpr ⟨h0, ?_⟩, fun b hb1 hb2 => ?_⟩
        · have := (hbd B).mpr (Nat.le_refl _)
          have he := hEb B (by omega)
          exact nI_nlt (by omega) (by omega)
        · cases hb3 : zWn (xm_i h 303) (xm_i h 308) na n (nI u) t nc k c b with
          | false => rfl
          | true =>
            have := (hwin b hb1 (by omega) hb3).1
            omega
    · rw [if_neg h0] at hv
      refine Or.inr ⟨hv, fun b hb1 hb2 => ?_⟩
      cases hb3 : zWn (xm_i h 303) (xm_i h 308) na n (nI u) t nc k c b with
      | false => rfl
      | true => exact absurd (hwin b hb1 hb2 hb3).2 h0
  generalize hv : (if zRf (xm_i h 303) (xm_i h 308) (nI (zRc (xm_i h 303) (xm_i h 308) c (nI u) n)) c (nI t) (nI ((((max fl q - 1) * 100 / m + 1) * m + 99) / 100)) (xm_i h 303 (51 + t)) = 0 then (if 999 < (max fl q - 1) * 100 / m + 1 then -1 else nI ((max fl q - 1) * 100 / m + 1)) else (-1 : Int32)) = v at *
  have hans2 := hans v rfl
  have hgS : xm_i (xm_si (xm_sl h1 316 0 (Int32.toInt64 v)) 302 4 0) 303 = xm_i h 303 := by rw [zU_ot (by decide), xi_sl, zrS hF]
  have hgT : xm_i (xm_si (xm_sl h1 316 0 (Int32.toInt64 v)) 302 4 0) 308 = xm_i h 308 := by rw [zU_ot (by decide), xi_sl, zrT hF]
  obtain ⟨h2, g1, g2⟩ := zs_least (N := N) (na := na) (nc := nc) (n := n) (c := c) (t := t) (k := k) (u := nI u) (v12 := xm_i h 303 (3 + 6 * c)) (h := xm_si (xm_sl h1 316 0 (Int32.toInt64 v)) 302 4 0) hN (by omega) (by omega) hI.wt.2.2.2.2.1 hnc hc hn400 (by rw [hgT]; exact hI.wt.2.2.2.2.2.2.2.2.1) (by rw [hgT]; exact hI.T14) (by rw [hgS]; exact hI.ws.2.2.2.1) (by rw [hgT]; exact hI.d0) (v := v) (by rw [hgS, hgT]; exact hans2)
  have g3 := g2.back
  rw [hgS] at g3
  refine zop_ok (h1 := h1) (h2 := xm_si h2 303 (3 + 6 * c) (xm_i h 303 (3 + 6 * c))) (v := v) hF ?_ ?_ ((zF.si zscr4).tr (g3.mono (fun a k => zsM_scr))) (by rw [g3.i (by unfold zsM; omega)]; exact xi_eq)
  · unfold f_L_leastBid f_X10_leastBid
    rw [zq_C1 hI.c7 (by omega) hc, xe_inl, zq_T1 hI.t5 (by omega) ht, xe_inl, zq_U1 hu, xe_inl, zq_S1 hI.s3 (by omega) hk1 hk2, xe_inl, c1, xb_some, xe_inl]
    rfl
  · unfold f_X11_leastBid
    rw [zq_isC1 (n := nc) (by rw [xi_sl, zrT hF]; exact hI.T14) (by omega) hc, xb_some, if_neg (by decide), zq_isT1 (n := nt) (by rw [xi_sl, zrT hF]; exact hI.T7) (by omega) ht, xb_some, if_neg (by decide), zs_isReq1 (nf := nf) hu (by rw [xi_sl, zrT hF]; exact hI.T2) hnf hk1 hk2, xb_some, zs_good_2, xb_some, if_neg (by decide), zs_of0 (by omega), xb_some, hgS, g1, zs_set0 (by omega), xb_some]
end Least2
