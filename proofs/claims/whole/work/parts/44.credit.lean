/-! calls: credit -/
def zds (f : Nat → UInt64) : Nat → UInt64
  | 0 => FP.dconst0
  | n + 1 => FP.dadd (zds f n) (f n)
theorem zds_pos {f : Nat → UInt64} : ∀ {n : Nat}, (∀ i, i < n → zPos (f i)) → zPos (zds f n) := by
  intro n
  induction n with
  | zero => intro _; exact zPos_0
  | succ n ih => intro h; exact zPos_add (ih (fun i hi => h i (by omega))) (h n (by omega))
/-- what campaign c has of conversion k by a model -/
def zCr (S T : zV) (c k cn mdl : Nat) : UInt64 :=
  if mdl = 2 then (if zct (zLd S T k) cn = 0 then FP.dconst0 else FP.ddiv (FP.i2d (S (2057 + 4 * k + 2) * nI (zct (fun i => zLd S T k i && decide (S (57 + 5 * i + 2) = nI c)) cn))) (FP.i2d (nI (zct (zLd S T k) cn))))
  else if mdl = 1 then (if zFst S T k cn = nI c then FP.i2d (S (2057 + 4 * k + 2)) else FP.dconst0)
  else (if zLst S T k cn = nI c then FP.i2d (S (2057 + 4 * k + 2)) else FP.dconst0)
section Cred
variable {N ρ δ nc nt nf na n nv ne la nb bo no cap L : Nat} {xs : zV} {S T : zV} {h : xm_H} {x y z w : Int32}
theorem zCr_pos {c k cn mdl : Nat} (hcn : cn ≤ 400) (hv : zB 1 9999 (S (2057 + 4 * k + 2))) : zPos (zCr S T c k cn mdl) := by
  obtain ⟨a, a1, a2, a3⟩ := hv
  have h1 := zct_le (zLd S T k) cn
  have h2 := zct_le (fun i => zLd S T k i && decide (S (57 + 5 * i + 2) = nI c)) cn
  unfold zCr
  rw [a3]
  split
  · split
    · exact zPos_0
    · rename_i h3
      have h4 : a * zct (fun i => zLd S T k i && decide (S (57 + 5 * i + 2) = nI c)) cn ≤ 9999 * 400 := Nat.mul_le_mul a2 (by omega)
      rw [pk_mul]
      exact zPos_div (zPos_i2d (by omega)) (by omega) (by omega)
  · split
    · split
      · exact zPos_i2d (by omega)
      · exact zPos_0
    · split
      · exact zPos_i2d (by omega)
      · exact zPos_0
theorem zc_creditOf {c k cn mdl : Nat} (hk : k < 40) (hc : c < 8) (hcn : cn ≤ 400) (hm : mdl < 3) (hv : zB 1 9999 (S (2057 + 4 * k + 2))) (e2 : xm_i h 229 k = S (2057 + 4 * k + 2)) (e3 : xm_i h 230 k = zFst S T k cn) (e4 : xm_i h 231 k = zLst S T k cn) (e5 : xm_i h 232 k = nI (zct (zLd S T k) cn)) (e6 : xm_i h 233 (8 * k + c) = nI (zct (fun i => zLd S T k i && decide (S (57 + 5 * i + 2) = nI c)) cn)) : f_X1_creditOf (nI k) (nI c) (nI mdl) h = some (zCr S T c k cn mdl, h) := by
  obtain ⟨a, a1, a2, a3⟩ := hv
  have h1 := zct_le (zLd S T k) cn
  have h2 := zct_le (fun i => zLd S T k i && decide (S (57 + 5 * i + 2) = nI c)) cn
  have hix : nI k * (8 : Int32) + nI c = nI (8 * k + c) := by rw [show (8 : Int32) = nI 8 from rfl, pk_mul, nI_add, Nat.mul_comm]
  unfold f_X1_creditOf zCr
  rw [hix, if_pos (zb_in (show k < 40 by omega) (by decide)), if_pos (zb_in (show 8 * k + c < 320 by omega) (by decide)), if_pos (zb_in (show k < 40 by omega) (by decide)), if_pos (zb_in (show k < 40 by omega) (by decide)), nI_clamp (n := k) (by omega), nI_clamp (n := 8 * k + c) (by omega), e2, e3, e4, e5, e6]
  by_cases h9 : mdl = 2
  · have h4 : a * zct (fun i => zLd S T k i && decide (S (57 + 5 * i + 2) = nI c)) cn ≤ 9999 * 400 := Nat.mul_le_mul a2 (by omega)
    rw [if_pos (show nI mdl = 2 by rw [h9]; rfl), if_pos h9, a3, pk_mul, zc_quo (by omega) (by omega), xb_some]
  · rw [if_neg (show ¬ nI mdl = 2 from fun z => h9 ((nI_eq (b := 2) (by omega) (by omega)).mp z)), if_neg h9]
    by_cases h8 : mdl = 1
    · rw [if_pos (show nI mdl = 1 by rw [h8]; rfl), if_pos h8]
      split
      · rfl
      · rfl
    · rw [if_neg (show ¬ nI mdl = 1 from fun z => h8 ((nI_eq (b := 1) (by omega) (by omega)).mp z)), if_neg h8]
      split
      · rfl
      · rfl
theorem zs_even {c k cn : Nat} (hN : 1000 ≤ N) (hk : k < 40) (hcn : cn ≤ n) (hn : n ≤ 400) (hS : xm_i h 303 1 = nI n) (e : xm_i h 303 (2057 + 4 * k + 3) = nI cn) : ∀ K, f_X11_evenShare_8 N (nI c) (nI k) K N 0 0 0 h = K (nI (zct (fun i => zLd (xm_i h 303) (xm_i h 308) k i && decide (xm_i h 303 (57 + 5 * i + 2) = nI c)) cn)) (nI (zct (zLd (xm_i h 303) (xm_i h 308) k) cn)) h := by
  intro K
  refine zlp0 (N := N) (F := fun n s => f_X11_evenShare_8 N (nI c) (nI k) K n s.1 s.2.1 s.2.2.1 s.2.2.2) (I := fun i s => s = (nI (zct (fun i => zLd (xm_i h 303) (xm_i h 308) k i && decide (xm_i h 303 (57 + 5 * i + 2) = nI c)) (min i cn)), nI (zct (zLd (xm_i h 303) (xm_i h 308) k) (min i cn)), nI i, h)) (L := n) (s := (0, 0, 0, h)) (by omega) (by rw [Nat.zero_min]; rfl) ?_ ?_
  · intro m i s hi hs
    subst hs
    refine ⟨_, rfl, ?_⟩
    show f_X11_evenShare_8B N (nI c) (nI k) K (f_X11_evenShare_8 N (nI c) (nI k) K m) _ _ (nI i) h = f_X11_evenShare_8 N (nI c) (nI k) K m _ _ (nI (i + 1)) h
    generalize f_X11_evenShare_8 N (nI c) (nI k) K m = rec
    dsimp only
    unfold f_X11_evenShare_8B
    rw [hS, if_pos (nI_lt hi (by omega)), zs_leads (by omega) hk (by omega) e, xb_some]
    by_cases hic : i < cn
    · rw [show min (i + 1) cn = i + 1 by omega, show min i cn = i by omega, decide_eq_true hic, Bool.true_and]
      show _ = rec (nI (zct (fun i => zLd (xm_i h 303) (xm_i h 308) k i && decide (xm_i h 303 (57 + 5 * i + 2) = nI c)) i + (if (zLd (xm_i h 303) (xm_i h 308) k i && decide (xm_i h 303 (57 + 5 * i + 2) = nI c)) = true then 1 else 0))) (nI (zct (zLd (xm_i h 303) (xm_i h 308) k) i + (if zLd (xm_i h 303) (xm_i h 308) k i = true then 1 else 0))) (nI (i + 1)) h
      cases hl : zLd (xm_i h 303) (xm_i h 308) k i with
      | false =>
        rw [if_pos (by decide : zi false = 0), Bool.false_and, if_neg (by decide), nI_1]
        rfl
      | true =>
        rw [if_neg (by decide : ¬ zi true = 0), zs_im2 (by omega), xb_some, Bool.true_and, if_pos rfl]
        by_cases hc : xm_i h 303 (57 + 5 * i + 2) = nI c
        · rw [if_pos hc, if_pos (decide_eq_true hc), nI_1, nI_1, nI_1]
        · rw [if_neg hc, if_neg (by simpa using hc), zx_0, nI_1, nI_1]
    · rw [show min (i + 1) cn = cn by omega, show min i cn = cn by omega, decide_eq_false hic, Bool.false_and, if_pos (by decide : zi false = 0), nI_1]
  · intro m s hs
    subst hs
    show f_X11_evenShare_8B N (nI c) (nI k) K (f_X11_evenShare_8 N (nI c) (nI k) K m) _ _ (nI n) h = _
    unfold f_X11_evenShare_8B
    rw [hS, if_neg (zlt_irr _), show min n cn = cn by omega]
theorem zs_shareBy {c k cn mdl : Nat} (hN : 1000 ≤ N) (hk : k < 40) (hcn : cn ≤ n) (hn : n ≤ 400) (hm : mdl < 3) (hS : xm_i h 303 1 = nI n) (e : xm_i h 303 (2057 + 4 * k + 3) = nI cn) (hv : zB 1 9999 (xm_i h 303 (2057 + 4 * k + 2))) : f_X11_shareBy N (nI c) (nI k) (nI mdl) h = some (zCr (xm_i h 303) (xm_i h 308) c k cn mdl, h) := by
  have hpos := zCr_pos (S := xm_i h 303) (T := xm_i h 308) (c := c) (k := k) (cn := cn) (mdl := 2) (by omega) hv
  have h1 := zct_le (zLd (xm_i h 303) (xm_i h 308) k) cn
  unfold f_X11_shareBy
  by_cases h9 : mdl = 2
  · rw [if_pos (show nI mdl = 2 by rw [h9]; rfl)]
    unfold f_X11_evenShare
    rw [zs_even hN hk hcn hn hS e]
    unfold zCr at hpos ⊢
    rw [if_pos rfl] at hpos
    rw [if_pos h9]
    by_cases h0 : zct (zLd (xm_i h 303) (xm_i h 308) k) cn = 0
    · rw [if_pos (show nI (zct (zLd (xm_i h 303) (xm_i h 308) k) cn) = 0 by rw [h0]; rfl), xb_some, if_pos h0]
    · rw [if_neg (nI_ne0 (by omega) (by omega)), zs_cv2 hk, xb_some]
      rw [if_neg h0] at hpos ⊢
      rw [if_pos hpos.g, xb_some]
  · rw [if_neg (show ¬ nI mdl = 2 from fun z => h9 ((nI_eq (b := 2) (by omega) (by omega)).mp z))]
    unfold zCr
    rw [if_neg h9]
    by_cases h8 : mdl = 1
    · obtain ⟨v, v1, v2⟩ := zs_first hN hk hcn hn hS e
      rw [if_neg (show ¬ nI mdl = 0 from nI_ne0 (by omega) (by omega)), v1, xb_some, v2, xb_some, if_pos h8]
      by_cases hc : zFst (xm_i h 303) (xm_i h 308) k cn = nI c
      · rw [if_pos hc, if_pos hc, zs_cv2 hk, xb_some]
      · rw [if_neg hc, if_neg hc]
    · obtain ⟨v, v1, v2, _⟩ := zs_last hN hk hcn hn hS e
      rw [if_pos (show nI mdl = 0 by rw [show mdl = 0 by omega]; rfl), v1, xb_some, v2, xb_some, if_neg h8]
      by_cases hc : zLst (xm_i h 303) (xm_i h 308) k cn = nI c
      · rw [if_pos hc, if_pos hc, zs_cv2 hk, xb_some]
      · rw [if_neg hc, if_neg hc]
theorem zo_credit (hN : 1000 ≤ N) (hI : zInv ρ δ nc nt nf na n nv ne la nb bo no cap L xs h) : zOpD (f_L_credit N ρ x y h) (f_X11_credit N x y) (zRO h) := by
  have hn := hI.n
  have hnc := hI.wt.1
  have h160 := hI.n160
  have h40 : nv ≤ 40 := hI.ws.2.1
  have hb : ∀ g : xm_H, f_X11_between (Int32.toInt64 y) (0 : Int64) (2 : Int64) g = some (zbt y 0 2, g) := fun g => by
    rw [show (0 : Int64) = (0 : Int32).toInt64 from rfl, show (2 : Int64) = (2 : Int32).toInt64 from rfl, zs_btw]
  rcases zix x (n := nc) (by omega) with hx | ⟨c, hc, rfl⟩
  · refine zopD_bad (k := 1) (b := FP.dconst0) zks14 (by decide) ?_ ?_
    · unfold f_L_credit f_X10_credit
      rw [zq_C0 hI.c7 hx, xe_inr, xe_inr]
      rfl
    · unfold f_X11_credit
      rw [zq_isC0 (n := nc) (by rw [xi_new (by omega)]; exact hI.T14) (by omega) hx, xb_some, hb, xb_some, zs_good_0, xb_some]
      rfl
  rcases zix y (n := 3) (by omega) with hy | ⟨mdl, hm, rfl⟩
  · have hy' : y < 0 ∨ 2 < y := hy.imp id (fun z => zlt_m1 (n := 3) (by omega) z)
    refine zopD_bad (k := 2) (b := FP.dconst0) zks15 (by decide) ?_ ?_
    · unfold f_L_credit f_X10_credit
      rw [zq_C1 hI.c7 (by omega) hc, xe_inl, zq_R0 hy', xe_inr, xe_inr]
      rfl
    · unfold f_X11_credit
      rw [zq_isC1 (n := nc) (by rw [xi_new (by omega)]; exact hI.T14) (by omega) hc, xb_some, hb, xb_some, zbt_0 hy', zs_good_1, xb_some]
      rfl
  have hcnf : ∀ k, k < nv → xm_i h 303 (2057 + 4 * k + 3) = nI (xm_i h 303 (2057 + 4 * k + 3)).toNatClampNeg ∧ (xm_i h 303 (2057 + 4 * k + 3)).toNatClampNeg ≤ n := fun k hk => by
    obtain ⟨cn, c1, c2, _⟩ := hI.rv hk
    rw [c2, nI_clamp (by omega)]
    exact ⟨rfl, c1⟩
  have hval : ∀ k, k < nv → zB 1 9999 (xm_i h 303 (2057 + 4 * k + 2)) := fun k hk => (hI.2.2.2.1.2.2.2.1.2.1 k hk).2.2.1
  have hpos : ∀ k, k < nv → zPos (zCr (xm_i h 303) (xm_i h 308) c k (xm_i h 303 (2057 + 4 * k + 3)).toNatClampNeg mdl) := fun k hk => zCr_pos (by have := (hcnf k hk).2; omega) (hval k hk)
  refine zopD_ok (v := zds (fun k => zCr (xm_i h 303) (xm_i h 308) c k (xm_i h 303 (2057 + 4 * k + 3)).toNatClampNeg mdl) nv) (h2 := xm_si (xm_sd h 317 0 (zds (fun k => zCr (xm_i h 303) (xm_i h 308) c k (xm_i h 303 (2057 + 4 * k + 3)).toNatClampNeg mdl) nv)) 302 4 0) ?_ ?_ (zF.si zscr4) xi_eq
  · have hlp : f_X10_credit_16 N ρ (nI c) (nI mdl) N FP.dconst0 0 h = some (.inl (zds (fun k => zCr (xm_i h 303) (xm_i h 308) c k (xm_i h 303 (2057 + 4 * k + 3)).toNatClampNeg mdl) nv), h) := by
      refine zlp0 (N := N) (F := fun n s => f_X10_credit_16 N ρ (nI c) (nI mdl) n s.1 s.2.1 s.2.2) (I := fun i s => s = (zds (fun k => zCr (xm_i h 303) (xm_i h 308) c k (xm_i h 303 (2057 + 4 * k + 3)).toNatClampNeg mdl) i, nI i, h)) (L := nv) (s := (FP.dconst0, 0, h)) (by omega) rfl ?_ ?_
      · intro m i s hi hs
        subst hs
        refine ⟨_, rfl, ?_⟩
        obtain ⟨cn, c1, c2, c3, c4, c5, c6, c7⟩ := hI.rv hi
        have hcr := zc_creditOf (S := xm_i h 303) (T := xm_i h 308) (c := c) (k := i) (cn := cn) (mdl := mdl) (h := h) (by omega) (by omega) (by omega) hm (hval i hi) c3 c4 c5 c6 (c7 c hc)
        have hp := hpos i hi
        have hz := zds_pos (f := fun k => zCr (xm_i h 303) (xm_i h 308) c k (xm_i h 303 (2057 + 4 * k + 3)).toNatClampNeg mdl) (n := i) (fun j hj => hpos j (by omega))
        rw [c2, nI_clamp (by omega)] at hp
        show f_X10_credit_16B N ρ (nI c) (nI mdl) (f_X10_credit_16 N ρ (nI c) (nI mdl) m) _ (nI i) h = f_X10_credit_16 N ρ (nI c) (nI mdl) m (FP.dadd (zds (fun k => zCr (xm_i h 303) (xm_i h 308) c k (xm_i h 303 (2057 + 4 * k + 3)).toNatClampNeg mdl) i) (zCr (xm_i h 303) (xm_i h 308) c i (xm_i h 303 (2057 + 4 * i + 3)).toNatClampNeg mdl)) (nI (i + 1)) h
        unfold f_X10_credit_16B
        rw [hI.cvs, if_pos (nI_lt hi (by omega)), hcr, xb_some, if_pos (zPos_add hz hp).g, nI_1, c2, nI_clamp (n := cn) (by omega)]
      · intro m s hs
        subst hs
        show f_X10_credit_16B N ρ (nI c) (nI mdl) (f_X10_credit_16 N ρ (nI c) (nI mdl) m) _ (nI nv) h = _
        unfold f_X10_credit_16B
        rw [hI.cvs, if_neg (zlt_irr _)]
    unfold f_L_credit f_X10_credit
    rw [zq_C1 hI.c7 (by omega) hc, xe_inl, zq_R1 (lo := 0) (hi := 2) (nI_pos (by omega)) (nI_nlt (a := 2) (b := mdl) (by omega) (by omega)), xe_inl, hlp, xe_inl]
    rfl
  · have hlp : ∀ g, xm_i g 303 = xm_i h 303 → xm_i g 308 = xm_i h 308 → f_X11_credit_28 N (nI c) (nI mdl) N FP.dconst0 0 g = some (zds (fun k => zCr (xm_i h 303) (xm_i h 308) c k (xm_i h 303 (2057 + 4 * k + 3)).toNatClampNeg mdl) nv, g) := by
      intro g hg hgT
      refine zlp0 (N := N) (F := fun n s => f_X11_credit_28 N (nI c) (nI mdl) n s.1 s.2.1 s.2.2) (I := fun i s => s = (zds (fun k => zCr (xm_i h 303) (xm_i h 308) c k (xm_i h 303 (2057 + 4 * k + 3)).toNatClampNeg mdl) i, nI i, g)) (L := nv) (s := (FP.dconst0, 0, g)) (by omega) rfl ?_ ?_
      · intro m i s hi hs
        subst hs
        refine ⟨_, rfl, ?_⟩
        obtain ⟨cn, c1, c2, c3, c4, c5, c6, c7⟩ := hI.rv hi
        have hcr := zs_shareBy (N := N) (n := n) (h := g) (c := c) (k := i) (cn := cn) (mdl := mdl) hN (by omega) c1 (by omega) hm (by rw [hg]; exact hI.ws.2.2.2.1) (by rw [hg]; exact c2) (by rw [hg]; exact hval i hi)
        rw [hg, hgT] at hcr
        have hp := hpos i hi
        have hz := zds_pos (f := fun k => zCr (xm_i h 303) (xm_i h 308) c k (xm_i h 303 (2057 + 4 * k + 3)).toNatClampNeg mdl) (n := i) (fun j hj => hpos j (by omega))
        rw [c2, nI_clamp (by omega)] at hp
        show f_X11_credit_28B N (nI c) (nI mdl) (f_X11_credit_28 N (nI c) (nI mdl) m) _ (nI i) g = f_X11_credit_28 N (nI c) (nI mdl) m (FP.dadd (zds (fun k => zCr (xm_i h 303) (xm_i h 308) c k (xm_i h 303 (2057 + 4 * k + 3)).toNatClampNeg mdl) i) (zCr (xm_i h 303) (xm_i h 308) c i (xm_i h 303 (2057 + 4 * i + 3)).toNatClampNeg mdl)) (nI (i + 1)) g
        unfold f_X11_credit_28B
        rw [hg, show xm_i h 303 2 = nI nv from hI.ws.2.2.2.2.1, if_pos (nI_lt hi (by omega)), hcr, xb_some, if_pos (zPos_add hz hp).g, nI_1, c2, nI_clamp (n := cn) (by omega)]
      · intro m s hs
        subst hs
        show f_X11_credit_28B N (nI c) (nI mdl) (f_X11_credit_28 N (nI c) (nI mdl) m) _ (nI nv) g = _
        unfold f_X11_credit_28B
        rw [hg, show xm_i h 303 2 = nI nv from hI.ws.2.2.2.2.1, if_neg (zlt_irr _)]
    unfold f_X11_credit
    rw [zq_isC1 (n := nc) (by exact hI.T14) (by omega) hc, xb_some, hb, xb_some, zbt_1 (a := 0) (b := 2) (nI_pos (by omega)) (nI_nlt (a := 2) (b := mdl) (by omega) (by omega)), zs_good_2, xb_some, if_neg (by decide), hlp _ (by rw [zU_ot (by decide), xi_sd]) (by rw [zU_ot (by decide), xi_sd])]
end Cred
