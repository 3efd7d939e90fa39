/-! calls: ranked, winner, price -/
section Auc
variable {N ρ δ nc nt nf na n nv ne la nb bo no cap L : Nat} {xs : zV} {h : xm_H} {x y z w : Int32}
/-- all of a ranked list bids the floor -/
theorem zRf_fl {S T : zV} {rc : Int32} {c : Nat} {tag e fl : Int32} (h0 : zRf S T rc c tag e fl = 0) : ¬ e < fl := by
  unfold zRf at h0
  intro he
  rw [if_pos he] at h0
  split at h0
  · exact absurd h0 (by decide)
  split at h0
  · exact absurd h0 (by decide)
  split at h0
  · exact absurd h0 (by decide)
  split at h0
  · exact absurd h0 (by decide)
  split at h0
  · exact absurd h0 (by decide)
  · exact absurd h0 (by decide)
theorem zL_tw {S T : zV} {n t nc : Nat} {u : Int32} : (zL S T n u t nc).takeWhile (fun c => !decide (zEf S c < S (51 + t))) = zL S T n u t nc := by
  have hall : ∀ c ∈ zL S T n u t nc, (!decide (zEf S c < S (51 + t))) = true := by
    intro c hc
    have h1 := (zRk_mem.mp hc).2
    have h2 : zRf S T (nI (zRc S T c u n)) c (nI t) (zEf S c) (S (51 + t)) = 0 := of_decide_eq_true h1
    have h3 := zRf_fl h2
    simp [h3]
  generalize zL S T n u t nc = l at *
  induction l with
  | nil => rfl
  | cons c l ih => rw [List.takeWhile_cons_of_pos (p := fun c => !decide (zEf S c < S (51 + t))) (hall c List.mem_cons_self), ih (fun c hc => hall c (List.mem_cons_of_mem _ hc))]
/-- the class's ranking and filling at the floor in force -/
theorem zc_auction {k t : Nat} {u : Int32} (hN : 1000 ≤ N) {S T : zV} (hR : zRA ρ nc nt nf na n S T h) (hWT : zWT nc nt nf na T) (hWS : zWS nc nt n nv S) (ht : t < nt) (hk : k ≤ nf) : ∃ h1 h2, f_X2_rank N ρ u (nI t) (xm_i h 202 t) h = some ((), h1) ∧ f_X2_fill N ρ (nI k) (xm_i h1 202 t) h1 = some ((), h2) ∧ zF zsC h h1 ∧ zF zsC h h2 ∧ zRkd nc n S T u (zL S T n u t nc) h1 ∧ zFc T (zEf S) (zL S T n u t nc) (S (51 + t)) h2 (zW S T na n u t nc k) := by
  have hnc := hWT.1
  have e202 : xm_i h 202 t = S (51 + t) := hR.2.2.1.2.2.2.2.1 t ht
  obtain ⟨h1, r1, r2, r3⟩ := zc_rank (N := N) (t := t) (u := u) (fl := S (51 + t)) hN hR hWT hWS
  have hR1 := hR.fr r2 hnc
  have e202' : xm_i h1 202 t = S (51 + t) := hR1.2.2.1.2.2.2.2.1 t ht
  have hlen := zRk_len (zEf S) (zCn S T n u t (S (51 + t))) nc
  obtain ⟨h2, f1, f2, f3⟩ := zc_fill (N := N) (ρ := ρ) (nc := nc) (nf := nf) (na := na) (T := T) (h := h1) (k := k) (l := zRk (zEf S) (zCn S T n u t (S (51 + t))) nc) (e := zEf S) (fl := S (51 + t)) hN hR.1 hR1.2.1 hnc hk hWT.2.2.2.1 (by omega) (fun c hc => (zRk_mem.mp hc).1) r3.1 r3.2.1 (fun c hc => r3.2.2.1 c (zRk_mem.mp hc).1)
  refine ⟨h1, h2, by rw [e202]; exact r1, by rw [e202']; exact f1, r2, r2.tr (f2.mono (fun a k z => by unfold zsC; omega)), r3, ?_⟩
  have := @zL_tw S T n t nc u
  unfold zW
  rw [← this]
  rw [this]
  rw [show zRk (zEf S) (zCn S T n u t (S (51 + t))) nc = zL S T n u t nc from rfl, this] at f3
  exact f3
theorem zo_ranked (hN : 1000 ≤ N) (hI : zInv ρ δ nc nt nf na n nv ne la nb bo no cap L xs h) : zOp (f_L_ranked N ρ x y z h) (f_X11_ranked N x y z) (zRO h) := by
  have hn := hI.n
  have hnc := hI.wt.1
  have hnt := hI.wt.2.1
  have hn400 := hI.ws.1
  rcases zix y (n := nt) (by omega) with hy | ⟨t, ht, rfl⟩
  · refine zop_bad (k := 1) (b := 0) zks14 (by decide) ?_ ?_
    · unfold f_L_ranked f_X10_ranked
      rw [zq_T0 hI.t5 hy, xe_inr, xe_inr]
      rfl
    · unfold f_X11_ranked
      rw [zq_isT0 (n := nt) (by rw [xi_new (by omega)]; exact hI.T7) (by omega) hy, xb_some, zs_isUser, xb_some, zs_good_0, zs_good_0, xb_some, if_pos rfl]
      split
      · rfl
      · split
        · rfl
        · rfl
  rcases zix x (n := 16) (by omega) with hx | ⟨u, hu, rfl⟩
  · refine zop_bad (k := 2) (b := 0) zks15 (by decide) ?_ ?_
    · unfold f_L_ranked f_X10_ranked
      rw [zq_T1 hI.t5 (by omega) ht, xe_inl, zq_U0 hx, xe_inr, xe_inr]
      rfl
    · unfold f_X11_ranked
      rw [zq_isT1 (n := nt) (by rw [xi_new (by omega)]; exact hI.T7) (by omega) ht, xb_some, zq_isU0 hx, xb_some, if_pos rfl, zs_good_1, xb_some]
      rfl
  by_cases hz : z < 0
  · refine zop_bad (k := 2) (b := 0) zks15 (by decide) ?_ ?_
    · unfold f_L_ranked f_X10_ranked
      rw [zq_T1 hI.t5 (by omega) ht, xe_inl, zq_U1 hu, xe_inl, if_pos hz, xe_inr]
      rfl
    · unfold f_X11_ranked
      rw [zq_isT1 (n := nt) (by rw [xi_new (by omega)]; exact hI.T7) (by omega) ht, xb_some, zq_isU1 hu, xb_some, if_neg (by decide), if_pos hz, zs_good_1, xb_some]
      rfl
  obtain ⟨h1, h2, r1, _, r2, _, r3, _⟩ := zc_auction (N := N) (u := nI u) (k := 1) hN hI.ra hI.wt hI.ws ht hI.wt.2.2.1
  have hF : zF zscr h h1 := r2.mono (fun a k => zsC_scr)
  have hlen : (zL (xm_i h 303) (xm_i h 308) n (nI u) t nc).length ≤ nc := zRk_len _ _ _
  have hgS : ∀ v, xm_i (xm_si (xm_sl h1 316 0 v) 302 4 0) 303 = xm_i h 303 := fun v => by rw [zU_ot (by decide), xi_sl, zrS hF]
  have hgT : ∀ v, xm_i (xm_si (xm_sl h1 316 0 v) 302 4 0) 308 = xm_i h 308 := fun v => by rw [zU_ot (by decide), xi_sl, zrT hF]
  have key : ∀ v, (if z < nI (zL (xm_i h 303) (xm_i h 308) n (nI u) t nc).length then ∃ p q, z = nI p ∧ p < 8 ∧ (zL (xm_i h 303) (xm_i h 308) n (nI u) t nc)[p]? = some q ∧ v = nI q else v = -1) → zOp (f_L_ranked N ρ (nI u) (nI t) z h) (f_X11_ranked N (nI u) (nI t) z) (zRO h) := by
    intro v hv
    obtain ⟨h3, a1, a2, a3, a4, a5⟩ := zs_auction (N := N) (n := n) (na := na) (nc := nc) (t := t) (k := 1) (u := nI u) (h := xm_si (xm_sl h1 316 0 (Int32.toInt64 v)) 302 4 0) hN (by omega) (by omega) hI.wt.2.2.2.2.1 hnc hn400 (by rw [hgT]; exact hI.wt.2.2.2.2.2.2.2.2.1) (by rw [hgT]; exact hI.T14) (by rw [hgS]; exact hI.ws.2.2.2.1) (by rw [hgT]; exact hI.d0)
    rw [hgS, hgT] at a3 a4
    have hF3 : zF zscr (xm_sl h1 316 0 (Int32.toInt64 v)) h3 := (zF.si zscr4).tr (a2.mono (fun a k => zsM_scr))
    refine zop_ok (h1 := h1) (h2 := h3) (v := v) hF ?_ ?_ hF3 (by rw [a2.i (by unfold zsM; omega)]; exact xi_eq)
    · unfold f_L_ranked f_X10_ranked
      rw [zq_T1 hI.t5 (by omega) ht, xe_inl, zq_U1 hu, xe_inl, if_neg hz, if_pos (zb_in (by omega) (by decide)), nI_clamp (by omega), r1, xb_some, r3.1]
      by_cases hlt : z < nI (zL (xm_i h 303) (xm_i h 308) n (nI u) t nc).length
      · rw [if_pos hlt] at hv ⊢
        obtain ⟨p, q, rfl, hp, hq, rfl⟩ := hv
        rw [if_pos (zb_in hp (by decide)), nI_clamp (by omega), r3.2.1 p q hq, xe_inl]
        rfl
      · rw [if_neg hlt] at hv ⊢
        subst hv
        rw [xe_inl]
        rfl
    · unfold f_X11_ranked
      rw [zq_isT1 (n := nt) (by rw [xi_sl, zrT hF]; exact hI.T7) (by omega) ht, xb_some, zq_isU1 hu, xb_some, if_neg (by decide), if_neg hz, zs_good_2, xb_some, if_neg (by decide), show (1 : Int32) = nI 1 from rfl, a1, xb_some, a3]
      by_cases hlt : z < nI (zL (xm_i h 303) (xm_i h 308) n (nI u) t nc).length
      · rw [if_pos hlt] at hv ⊢
        obtain ⟨p, q, rfl, hp, hq, rfl⟩ := hv
        rw [if_pos (zb_in hp (by decide)), nI_clamp (by omega), a4 p q hq]
      · rw [if_neg hlt] at hv ⊢
        subst hv
        rfl
  rcases zix z (n := (zL (xm_i h 303) (xm_i h 308) n (nI u) t nc).length) (by omega) with hz2 | ⟨p, hp, rfl⟩
  · exact key (-1) (by rw [if_neg (zle_nlt (hz2.resolve_left hz))])
  · exact key (nI (zL (xm_i h 303) (xm_i h 308) n (nI u) t nc)[p]) (by rw [if_pos (nI_lt hp (by omega))]; exact ⟨p, _, rfl, by omega, List.getElem?_eq_getElem hp, rfl⟩)
theorem zo_winner (hN : 1000 ≤ N) (hI : zInv ρ δ nc nt nf na n nv ne la nb bo no cap L xs h) : zOp (f_L_winner N ρ x y z h) (f_X11_winner N x y z) (zRO h) := by
  have hn := hI.n
  have hnc := hI.wt.1
  have hnt := hI.wt.2.1
  have hn400 := hI.ws.1
  have hnf := hI.wt.2.2.2.1
  have hb : ∀ g : xm_H, f_X11_between (Int32.toInt64 z) (0 : Int64) (Int32.toInt64 ((xm_i g 308 2) - (1 : Int32))) g = some (zbt z 0 (xm_i g 308 2 - 1), g) := fun g => by
    rw [show (0 : Int64) = (0 : Int32).toInt64 from rfl, zs_btw]
  rcases zix y (n := nt) (by omega) with hy | ⟨t, ht, rfl⟩
  · refine zop_bad (k := 1) (b := 0) zks14 (by decide) ?_ ?_
    · unfold f_L_winner f_X10_winner
      rw [zq_T0 hI.t5 hy, xe_inr, xe_inr]
      rfl
    · unfold f_X11_winner
      rw [zq_isT0 (n := nt) (by rw [xi_new (by omega)]; exact hI.T7) (by omega) hy, xb_some, zs_isUser, xb_some, hb]
      simp only [xb_some, zs_good_0]
      split
      · rfl
      · split
        · rfl
        · rfl
  rcases zix x (n := 16) (by omega) with hx | ⟨u, hu, rfl⟩
  · refine zop_bad (k := 2) (b := 0) zks15 (by decide) ?_ ?_
    · unfold f_L_winner f_X10_winner
      rw [zq_T1 hI.t5 (by omega) ht, xe_inl, zq_U0 hx, xe_inr, xe_inr]
      rfl
    · unfold f_X11_winner
      rw [zq_isT1 (n := nt) (by rw [xi_new (by omega)]; exact hI.T7) (by omega) ht, xb_some, zq_isU0 hx, xb_some, if_pos rfl, zs_good_1, xb_some]
      rfl
  rcases zix z (n := nf) (by omega) with hz | ⟨s, hs, rfl⟩
  · refine zop_bad (k := 2) (b := 0) zks15 (by decide) ?_ ?_
    · unfold f_L_winner f_X10_winner
      rw [zq_T1 hI.t5 (by omega) ht, xe_inl, zq_U1 hu, xe_inl, zq_s0 hI.s3 (by omega) hz, xe_inr, xe_inr]
      rfl
    · unfold f_X11_winner
      rw [zq_isT1 (n := nt) (by rw [xi_new (by omega)]; exact hI.T7) (by omega) ht, xb_some, zq_isU1 hu, xb_some, if_neg (by decide), hb, xb_some, xi_new (by omega), hI.T2, zbt_0 (hz.imp id (zlt_m1 (by omega))), if_pos rfl, zs_good_1, xb_some]
      rfl
  obtain ⟨h1, h2, r1, f1, r2, f2, r3, f3⟩ := zc_auction (N := N) (u := nI u) (k := s + 1) hN hI.ra hI.wt hI.ws ht (by omega)
  have hF : zF zscr h h2 := f2.mono (fun a k => zsC_scr)
  have hlen : (zW (xm_i h 303) (xm_i h 308) na n (nI u) t nc (s + 1)).length ≤ s + 1 := zFl_len (by simp)
  have hgS : ∀ v, xm_i (xm_si (xm_sl h2 316 0 v) 302 4 0) 303 = xm_i h 303 := fun v => by rw [zU_ot (by decide), xi_sl, zrS hF]
  have hgT : ∀ v, xm_i (xm_si (xm_sl h2 316 0 v) 302 4 0) 308 = xm_i h 308 := fun v => by rw [zU_ot (by decide), xi_sl, zrT hF]
  have key : ∀ v, (if s < (zW (xm_i h 303) (xm_i h 308) na n (nI u) t nc (s + 1)).length then xm_i h2 218 s = v ∧ (∀ h3, zFi (xm_i h 308) (zEf (xm_i h 303)) (zL (xm_i h 303) (xm_i h 308) n (nI u) t nc) (xm_i h 303 (51 + t)) h3 (zW (xm_i h 303) (xm_i h 308) na n (nI u) t nc (s + 1)) → xm_i h3 313 s = v) else v = -1) → zOp (f_L_winner N ρ (nI u) (nI t) (nI s) h) (f_X11_winner N (nI u) (nI t) (nI s)) (zRO h) := by
    intro v hv
    obtain ⟨h3, a1, a2, a3, a4, a5⟩ := zs_auction (N := N) (n := n) (na := na) (nc := nc) (t := t) (k := s + 1) (u := nI u) (h := xm_si (xm_sl h2 316 0 (Int32.toInt64 v)) 302 4 0) hN (by omega) (by omega) hI.wt.2.2.2.2.1 hnc hn400 (by rw [hgT]; exact hI.wt.2.2.2.2.2.2.2.2.1) (by rw [hgT]; exact hI.T14) (by rw [hgS]; exact hI.ws.2.2.2.1) (by rw [hgT]; exact hI.d0)
    rw [hgS, hgT] at a3 a4 a5
    have hF3 : zF zscr (xm_sl h2 316 0 (Int32.toInt64 v)) h3 := (zF.si zscr4).tr (a2.mono (fun a k => zsM_scr))
    refine zop_ok (h1 := h2) (h2 := h3) (v := v) hF ?_ ?_ hF3 (by rw [a2.i (by unfold zsM; omega)]; exact xi_eq)
    · unfold f_L_winner f_X10_winner
      rw [zq_T1 hI.t5 (by omega) ht, xe_inl, zq_U1 hu, xe_inl, zq_s1 hI.s3 (by omega) hs, xe_inl, if_pos (zb_in (by omega) (by decide)), nI_clamp (by omega), r1, xb_some, nI_1, f1, xb_some, f3.1]
      by_cases hlt : s < (zW (xm_i h 303) (xm_i h 308) na n (nI u) t nc (s + 1)).length
      · rw [if_pos hlt] at hv
        rw [if_pos (nI_lt hlt (by omega)), if_pos (zb_in (by omega) (by decide)), nI_clamp (by omega), hv.1, xe_inl]
        rfl
      · rw [if_neg hlt] at hv
        subst hv
        rw [if_neg (nI_nlt (by omega) (by omega)), xe_inl]
        rfl
    · unfold f_X11_winner
      rw [zq_isT1 (n := nt) (by rw [xi_sl, zrT hF]; exact hI.T7) (by omega) ht, xb_some, zq_isU1 hu, xb_some, if_neg (by decide), hb, xb_some, xi_sl, show xm_i h2 308 2 = nI nf by rw [zrT hF]; exact hI.T2, zbt_1 (nI_pos (by omega)) (znlt_m1 (by omega) hs), if_neg (by decide), zs_good_2, xb_some, if_neg (by decide), nI_1, a1, xb_some, a5.1]
      by_cases hlt : s < (zW (xm_i h 303) (xm_i h 308) na n (nI u) t nc (s + 1)).length
      · rw [if_pos hlt] at hv
        rw [if_pos (nI_lt hlt (by omega)), if_pos (zb_in (by omega) (by decide)), nI_clamp (by omega), hv.2 h3 a5]
      · rw [if_neg hlt] at hv
        subst hv
        rw [if_neg (nI_nlt (by omega) (by omega))]
  by_cases hlt : s < (zW (xm_i h 303) (xm_i h 308) na n (nI u) t nc (s + 1)).length
  · have hw := List.getElem?_eq_getElem hlt
    refine key (nI (zW (xm_i h 303) (xm_i h 308) na n (nI u) t nc (s + 1))[s].2) ?_
    rw [if_pos hlt]
    exact ⟨f3.2.1 s _ (by rw [List.getElem?_map, hw]; rfl), fun h3 k3 => k3.2.1 s _ (by rw [List.getElem?_map, hw]; rfl)⟩
  · exact key (-1) (by rw [if_neg hlt])
theorem zo_price (hN : 1000 ≤ N) (hI : zInv ρ δ nc nt nf na n nv ne la nb bo no cap L xs h) : zOp (f_L_price N ρ x y z h) (f_X11_price N x y z) (zRO h) := by
  have hn := hI.n
  have hnc := hI.wt.1
  have hnt := hI.wt.2.1
  have hn400 := hI.ws.1
  have hnf := hI.wt.2.2.2.1
  have hb : ∀ g : xm_H, f_X11_between (Int32.toInt64 z) (0 : Int64) (Int32.toInt64 ((xm_i g 308 2) - (1 : Int32))) g = some (zbt z 0 (xm_i g 308 2 - 1), g) := fun g => by
    rw [show (0 : Int64) = (0 : Int32).toInt64 from rfl, zs_btw]
  rcases zix y (n := nt) (by omega) with hy | ⟨t, ht, rfl⟩
  · refine zop_bad (k := 1) (b := 0) zks14 (by decide) ?_ ?_
    · unfold f_L_price f_X10_price
      rw [zq_T0 hI.t5 hy, xe_inr, xe_inr]
      rfl
    · unfold f_X11_price
      rw [zq_isT0 (n := nt) (by rw [xi_new (by omega)]; exact hI.T7) (by omega) hy, xb_some, zs_isUser, xb_some, hb]
      simp only [xb_some, zs_good_0]
      split
      · rfl
      · split
        · rfl
        · rfl
  rcases zix x (n := 16) (by omega) with hx | ⟨u, hu, rfl⟩
  · refine zop_bad (k := 2) (b := 0) zks15 (by decide) ?_ ?_
    · unfold f_L_price f_X10_price
      rw [zq_T1 hI.t5 (by omega) ht, xe_inl, zq_U0 hx, xe_inr, xe_inr]
      rfl
    · unfold f_X11_price
      rw [zq_isT1 (n := nt) (by rw [xi_new (by omega)]; exact hI.T7) (by omega) ht, xb_some, zq_isU0 hx, xb_some, if_pos rfl, zs_good_1, xb_some]
      rfl
  rcases zix z (n := nf) (by omega) with hz | ⟨s, hs, rfl⟩
  · refine zop_bad (k := 2) (b := 0) zks15 (by decide) ?_ ?_
    · unfold f_L_price f_X10_price
      rw [zq_T1 hI.t5 (by omega) ht, xe_inl, zq_U1 hu, xe_inl, zq_s0 hI.s3 (by omega) hz, xe_inr, xe_inr]
      rfl
    · unfold f_X11_price
      rw [zq_isT1 (n := nt) (by rw [xi_new (by omega)]; exact hI.T7) (by omega) ht, xb_some, zq_isU1 hu, xb_some, if_neg (by decide), hb, xb_some, xi_new (by omega), hI.T2, zbt_0 (hz.imp id (zlt_m1 (by omega))), if_pos rfl, zs_good_1, xb_some]
      rfl
  obtain ⟨h1, h2, r1, f1, r2, f2, r3, f3⟩ := zc_auction (N := N) (u := nI u) (k := s + 1) hN hI.ra hI.wt hI.ws ht (by omega)
  have hF : zF zscr h h2 := f2.mono (fun a k => zsC_scr)
  have hlen : (zW (xm_i h 303) (xm_i h 308) na n (nI u) t nc (s + 1)).length ≤ s + 1 := zFl_len (by simp)
  have hgS : ∀ v, xm_i (xm_si (xm_sl h2 316 0 v) 302 4 0) 303 = xm_i h 303 := fun v => by rw [zU_ot (by decide), xi_sl, zrS hF]
  have hgT : ∀ v, xm_i (xm_si (xm_sl h2 316 0 v) 302 4 0) 308 = xm_i h 308 := fun v => by rw [zU_ot (by decide), xi_sl, zrT hF]
  have key : ∀ v, (if s < (zW (xm_i h 303) (xm_i h 308) na n (nI u) t nc (s + 1)).length then xm_i h2 219 s = v ∧ (∀ h3, zFi (xm_i h 308) (zEf (xm_i h 303)) (zL (xm_i h 303) (xm_i h 308) n (nI u) t nc) (xm_i h 303 (51 + t)) h3 (zW (xm_i h 303) (xm_i h 308) na n (nI u) t nc (s + 1)) → xm_i h3 314 s = v) else v = -1) → zOp (f_L_price N ρ (nI u) (nI t) (nI s) h) (f_X11_price N (nI u) (nI t) (nI s)) (zRO h) := by
    intro v hv
    obtain ⟨h3, a1, a2, a3, a4, a5⟩ := zs_auction (N := N) (n := n) (na := na) (nc := nc) (t := t) (k := s + 1) (u := nI u) (h := xm_si (xm_sl h2 316 0 (Int32.toInt64 v)) 302 4 0) hN (by omega) (by omega) hI.wt.2.2.2.2.1 hnc hn400 (by rw [hgT]; exact hI.wt.2.2.2.2.2.2.2.2.1) (by rw [hgT]; exact hI.T14) (by rw [hgS]; exact hI.ws.2.2.2.1) (by rw [hgT]; exact hI.d0)
    rw [hgS, hgT] at a3 a4 a5
    have hF3 : zF zscr (xm_sl h2 316 0 (Int32.toInt64 v)) h3 := (zF.si zscr4).tr (a2.mono (fun a k => zsM_scr))
    refine zop_ok (h1 := h2) (h2 := h3) (v := v) hF ?_ ?_ hF3 (by rw [a2.i (by unfold zsM; omega)]; exact xi_eq)
    · unfold f_L_price f_X10_price
      rw [zq_T1 hI.t5 (by omega) ht, xe_inl, zq_U1 hu, xe_inl, zq_s1 hI.s3 (by omega) hs, xe_inl, if_pos (zb_in (by omega) (by decide)), nI_clamp (by omega), r1, xb_some, nI_1, f1, xb_some, f3.1]
      by_cases hlt : s < (zW (xm_i h 303) (xm_i h 308) na n (nI u) t nc (s + 1)).length
      · rw [if_pos hlt] at hv
        rw [if_pos (nI_lt hlt (by omega)), if_pos (zb_in (by omega) (by decide)), nI_clamp (by omega), hv.1, xe_inl]
        rfl
      · rw [if_neg hlt] at hv
        subst hv
        rw [if_neg (nI_nlt (by omega) (by omega)), xe_inl]
        rfl
    · unfold f_X11_price
      rw [zq_isT1 (n := nt) (by rw [xi_sl, zrT hF]; exact hI.T7) (by omega) ht, xb_some, zq_isU1 hu, xb_some, if_neg (by decide), hb, xb_some, xi_sl, show xm_i h2 308 2 = nI nf by rw [zrT hF]; exact hI.T2, zbt_1 (nI_pos (by omega)) (znlt_m1 (by omega) hs), if_neg (by decide), zs_good_2, xb_some, if_neg (by decide), nI_1, a1, xb_some, a5.1]
      by_cases hlt : s < (zW (xm_i h 303) (xm_i h 308) na n (nI u) t nc (s + 1)).length
      · rw [if_pos hlt] at hv
        rw [if_pos (nI_lt hlt (by omega)), if_pos (zb_in (by omega) (by decide)), nI_clamp (by omega), hv.2 h3 a5]
      · rw [if_neg hlt] at hv
        subst hv
        rw [if_neg (nI_nlt (by omega) (by omega))]
  by_cases hlt : s < (zW (xm_i h 303) (xm_i h 308) na n (nI u) t nc (s + 1)).length
  · have hw := List.getElem?_eq_getElem hlt
    refine key (zPr (zEf (xm_i h 303)) (xm_i h 308) (zL (xm_i h 303) (xm_i h 308) n (nI u) t nc) (xm_i h 303 (51 + t)) s (zW (xm_i h 303) (xm_i h 308) na n (nI u) t nc (s + 1))[s].1) ?_
    rw [if_pos hlt]
    exact ⟨f3.2.2 s _ hw, fun h3 k3 => k3.2.2 s _ hw⟩
  · exact key (-1) (by rw [if_neg hlt])
end Auc
