/-! calls: topUser, meanPrice, credit, unattributed -/
def zTop (cnt : Nat → Nat) : Nat → Int32 × Nat
  | 0 => (-1, 0)
  | n + 1 => if (zTop cnt n).2 < cnt n then (nI n, cnt n) else zTop cnt n
theorem zTop_congr {f g : Nat → Nat} : ∀ {n : Nat}, (∀ i, i < n → f i = g i) → zTop f n = zTop g n := by
  intro n
  induction n with
  | zero => intro _; rfl
  | succ n ih =>
    intro h
    unfold zTop
    rw [ih (fun i hi => h i (by omega)), h n (by omega)]
theorem zTop_le {f : Nat → Nat} {B : Nat} (h : ∀ i, f i ≤ B) : ∀ n, (zTop f n).2 ≤ B := by
  intro n
  induction n with
  | zero => show 0 ≤ B; omega
  | succ n ih =>
    unfold zTop
    split
    · exact h n
    · exact ih
section Imp2
variable {N ρ δ nc nt nf na n nv ne la nb bo no cap L : Nat} {xs : zV} {S T : zV} {h : xm_H} {x y z w : Int32}
theorem zc_countTo {u : Int32} {b : Nat} (hN : 1000 ≤ N) (hb : b ≤ 400) : f_X4_countTo N u (nI b) h = some (nI (zct (fun j => decide (xm_i h 211 j = u)) b), h) := by
  unfold f_X4_countTo
  refine zlp0 (N := N) (F := fun n s => f_X4_countTo_5 N u (nI b) n s.1 s.2.1 s.2.2) (I := fun i s => s = (nI (zct (fun j => decide (xm_i h 211 j = u)) i), nI i, h)) (L := b) (s := (0, 0, h)) (by omega) rfl ?_ ?_
  · intro m i s hi hs
    subst hs
    refine ⟨_, rfl, ?_⟩
    show f_X4_countTo_5B N u (nI b) (f_X4_countTo_5 N u (nI b) m) (nI (zct (fun j => decide (xm_i h 211 j = u)) i)) (nI i) h = f_X4_countTo_5 N u (nI b) m (nI (zct (fun j => decide (xm_i h 211 j = u)) i + (if decide (xm_i h 211 i = u) = true then 1 else 0))) (nI (i + 1)) h
    unfold f_X4_countTo_5B
    rw [if_pos (nI_lt hi (by omega)), if_pos (zb_in (by omega) (by decide)), nI_clamp (by omega)]
    by_cases hc : xm_i h 211 i = u
    · rw [if_pos hc, if_pos (decide_eq_true hc), nI_1, nI_1]
    · rw [if_neg hc, if_neg (by simpa using hc), nI_1]
      rfl
  · intro m s hs
    subst hs
    show f_X4_countTo_5B N u (nI b) (f_X4_countTo_5 N u (nI b) m) _ (nI b) h = _
    unfold f_X4_countTo_5B
    rw [if_neg (zlt_irr _)]
theorem zs_impressionsTo {u : Int32} {g : xm_H} (hN : 1000 ≤ N) (hn : n ≤ 400) (hS : xm_i g 303 1 = nI n) : f_X11_impressionsTo N u g = some (nI (zct (fun j => decide (xm_i g 303 (57 + 5 * j + 1) = u)) n), g) := by
  unfold f_X11_impressionsTo
  refine zlp0 (N := N) (F := fun n s => f_X11_impressionsTo_4 N u n s.1 s.2.1 s.2.2) (I := fun i s => s = (nI (zct (fun j => decide (xm_i g 303 (57 + 5 * j + 1) = u)) i), nI i, g)) (L := n) (s := (0, 0, g)) (by omega) rfl ?_ ?_
  · intro m i s hi hs
    subst hs
    refine ⟨_, rfl, ?_⟩
    show f_X11_impressionsTo_4B N u (f_X11_impressionsTo_4 N u m) (nI (zct (fun j => decide (xm_i g 303 (57 + 5 * j + 1) = u)) i)) (nI i) g = f_X11_impressionsTo_4 N u m (nI (zct (fun j => decide (xm_i g 303 (57 + 5 * j + 1) = u)) i + (if decide (xm_i g 303 (57 + 5 * i + 1) = u) = true then 1 else 0))) (nI (i + 1)) g
    unfold f_X11_impressionsTo_4B
    rw [hS, if_pos (nI_lt hi (by omega)), zs_im1 (by omega), xb_some]
    by_cases hc : xm_i g 303 (57 + 5 * i + 1) = u
    · rw [if_pos hc, if_pos (decide_eq_true hc), nI_1, nI_1]
    · rw [if_neg hc, if_neg (by simpa using hc), zx_0, nI_1]
  · intro m s hs
    subst hs
    show f_X11_impressionsTo_4B N u (f_X11_impressionsTo_4 N u m) _ (nI n) g = _
    unfold f_X11_impressionsTo_4B
    rw [hS, if_neg (zlt_irr _)]
theorem zo_topUser (hN : 1000 ≤ N) (hI : zInv ρ δ nc nt nf na n nv ne la nb bo no cap L xs h) : zOq (f_X10_topUser N h) (f_X11_topUser N) (zRO h) := by
  have h160 := hI.n160
  have hle : ∀ i, zct (fun j => decide (xm_i h 303 (57 + 5 * j + 1) = nI i)) n ≤ 400 := fun i => Nat.le_trans (zct_le _ _) (by omega)
  have hct : ∀ u : Nat, zct (fun j => decide (xm_i h 211 j = nI u)) n = zct (fun j => decide (xm_i h 303 (57 + 5 * j + 1) = nI u)) n := fun u => zct_congr (fun i hi => by rw [(hI.ra.2.2.2 i hi).2.1])
  refine zoq_ok (v := (zTop (fun u => zct (fun j => decide (xm_i h 303 (57 + 5 * j + 1) = nI u)) n) 16).1) (h2 := xm_si h 302 4 0) ?_ ?_ (zF.si zscr4)
  · unfold f_X10_topUser
    refine zlp0 (N := N) (F := fun n s => f_X10_topUser_6 N n s.1 s.2.1 s.2.2.1 s.2.2.2) (I := fun i s => s = ((zTop (fun u => zct (fun j => decide (xm_i h 303 (57 + 5 * j + 1) = nI u)) n) i).1, nI (zTop (fun u => zct (fun j => decide (xm_i h 303 (57 + 5 * j + 1) = nI u)) n) i).2, nI i, h)) (L := 16) (s := (-1, 0, 0, h)) (by omega) rfl ?_ ?_
    · intro m i s hi hs
      subst hs
      refine ⟨_, rfl, ?_⟩
      have ht := zTop_le hle i
      have hsc : zTop (fun u => zct (fun j => decide (xm_i h 303 (57 + 5 * j + 1) = nI u)) n) (i + 1) = if (zTop (fun u => zct (fun j => decide (xm_i h 303 (57 + 5 * j + 1) = nI u)) n) i).2 < zct (fun j => decide (xm_i h 303 (57 + 5 * j + 1) = nI i)) n then (nI i, zct (fun j => decide (xm_i h 303 (57 + 5 * j + 1) = nI i)) n) else zTop (fun u => zct (fun j => decide (xm_i h 303 (57 + 5 * j + 1) = nI u)) n) i := rfl
      rw [hsc]
      have h4 := hle i
      generalize zTop (fun u => zct (fun j => decide (xm_i h 303 (57 + 5 * j + 1) = nI u)) n) i = tp at *
      show f_X10_topUser_6B N (f_X10_topUser_6 N m) tp.1 (nI tp.2) (nI i) h = f_X10_topUser_6 N m _ _ (nI (i + 1)) h
      generalize f_X10_topUser_6 N m = rec
      unfold f_X10_topUser_6B
      rw [if_pos (show nI i < 16 from nI_lt (b := 16) hi (by decide)), hI.e2, zc_countTo hN (by omega), xb_some, hct, nI_1]
      by_cases hlt : tp.2 < zct (fun j => decide (xm_i h 303 (57 + 5 * j + 1) = nI i)) n
      · rw [if_pos (nI_lt hlt (by omega)), if_pos hlt]
      · rw [if_neg (nI_nlt (by omega) (by omega)), if_neg hlt]
    · intro m s hs
      subst hs
      show f_X10_topUser_6B N (f_X10_topUser_6 N m) _ _ (nI 16) h = _
      unfold f_X10_topUser_6B
      rw [if_neg (show ¬ nI 16 < 16 from zlt_irr (nI 16))]
  · unfold f_X11_topUser
    simp only [xl]
    have e : xm_i (xm_si h 302 4 0) 303 = xm_i h 303 := zU_ot (by decide)
    refine zlp0 (N := N) (F := fun n s => f_X11_topUser_11 N n s.1 s.2.1 s.2.2.1 s.2.2.2) (I := fun i s => s = ((zTop (fun u => zct (fun j => decide (xm_i h 303 (57 + 5 * j + 1) = nI u)) n) i).1, nI (zTop (fun u => zct (fun j => decide (xm_i h 303 (57 + 5 * j + 1) = nI u)) n) i).2, nI i, xm_si h 302 4 0)) (L := 16) (s := (-1, 0, 0, xm_si h 302 4 0)) (by omega) rfl ?_ ?_
    · intro m i s hi hs
      subst hs
      refine ⟨_, rfl, ?_⟩
      have ht := zTop_le hle i
      have hsc : zTop (fun u => zct (fun j => decide (xm_i h 303 (57 + 5 * j + 1) = nI u)) n) (i + 1) = if (zTop (fun u => zct (fun j => decide (xm_i h 303 (57 + 5 * j + 1) = nI u)) n) i).2 < zct (fun j => decide (xm_i h 303 (57 + 5 * j + 1) = nI i)) n then (nI i, zct (fun j => decide (xm_i h 303 (57 + 5 * j + 1) = nI i)) n) else zTop (fun u => zct (fun j => decide (xm_i h 303 (57 + 5 * j + 1) = nI u)) n) i := rfl
      rw [hsc]
      have h4 := hle i
      generalize zTop (fun u => zct (fun j => decide (xm_i h 303 (57 + 5 * j + 1) = nI u)) n) i = tp at *
      show f_X11_topUser_11B N (f_X11_topUser_11 N m) tp.1 (nI tp.2) (nI i) (xm_si h 302 4 0) = f_X11_topUser_11 N m _ _ (nI (i + 1)) (xm_si h 302 4 0)
      generalize f_X11_topUser_11 N m = rec
      unfold f_X11_topUser_11B
      rw [if_pos (show nI i < 16 from nI_lt (b := 16) hi (by decide)), zs_impressionsTo (n := n) hN (by omega) (by rw [e]; exact hI.ws.2.2.2.1), xb_some, e, nI_1]
      by_cases hlt : tp.2 < zct (fun j => decide (xm_i h 303 (57 + 5 * j + 1) = nI i)) n
      · rw [if_pos (nI_lt hlt (by omega)), if_pos hlt]
      · rw [if_neg (nI_nlt (by omega) (by omega)), if_neg hlt]
    · intro m s hs
      subst hs
      show f_X11_topUser_11B N (f_X11_topUser_11 N m) _ _ (nI 16) _ = _
      unfold f_X11_topUser_11B
      rw [if_neg (show ¬ nI 16 < 16 from zlt_irr (nI 16))]
theorem zadd0 (x : Int32) : x + 0 = x := Int32.add_zero x
theorem zo_meanPrice (hN : 1000 ≤ N) (hI : zInv ρ δ nc nt nf na n nv ne la nb bo no cap L xs h) : zOpD (f_L_meanPrice N ρ x h) (f_X11_meanPrice N x) (zRO h) := by
  have hn := hI.n
  have hnf := hI.wt.2.2.2.1
  have h160 := hI.n160
  have hb : ∀ g : xm_H, f_X11_between (Int32.toInt64 x) (0 : Int64) (Int32.toInt64 ((xm_i g 308 2) - (1 : Int32))) g = some (zbt x 0 (xm_i g 308 2 - 1), g) := fun g => by
    rw [show (0 : Int64) = (0 : Int32).toInt64 from rfl, zs_btw]
  rcases zix x (n := nf) (by omega) with hx | ⟨s, hs, rfl⟩
  · refine zopD_bad (k := 1) (b := FP.dconst0) zks15 (by decide) ?_ ?_
    · unfold f_L_meanPrice f_X10_meanPrice
      rw [zq_s0 hI.s3 (by omega) hx, xe_inr, xe_inr]
      rfl
    · unfold f_X11_meanPrice
      rw [hb, xb_some, xi_new (by omega), hI.T2, zbt_0 (hx.imp id (zlt_m1 (by omega))), zs_good0, xb_some]
      rfl
  · have hK := zct_le (fun j => decide (xm_i h 303 (57 + 5 * j + 3) = nI s)) n
    obtain ⟨M, M1, M2⟩ := zsm_bd (f := fun j => if xm_i h 303 (57 + 5 * j + 3) = nI s then xm_i h 303 (57 + 5 * j + 4) else 0) (B := 999) (n := n) (fun i hi => by
      by_cases hc : xm_i h 303 (57 + 5 * i + 3) = nI s
      · rw [if_pos hc]
        exact (hI.ws.2.2.2.2.2.2.2 i hi).2.2.2.2
      · rw [if_neg hc]
        exact ⟨0, by omega, by omega, rfl⟩)
    have hM : M ≤ 160 * 999 := Nat.le_trans M1 (Nat.mul_le_mul_right _ h160)
    have hcls : ∀ K, f_X10_meanPrice_21 N ρ (nI s) K N 0 0 0 h = K (nI M) (nI (zct (fun j => decide (xm_i h 303 (57 + 5 * j + 3) = nI s)) n)) h := by
      intro K
      rw [← M2]
      refine zlp0 (N := N) (F := fun n s' => f_X10_meanPrice_21 N ρ (nI s) K n s'.1 s'.2.1 s'.2.2.1 s'.2.2.2) (I := fun i s' => s' = (zsm (fun j => if xm_i h 303 (57 + 5 * j + 3) = nI s then xm_i h 303 (57 + 5 * j + 4) else 0) i, nI (zct (fun j => decide (xm_i h 303 (57 + 5 * j + 3) = nI s)) i), nI i, h)) (L := n) (s := (0, 0, 0, h)) (by omega) rfl ?_ ?_
      · intro m i s' hi hs'
        subst hs'
        refine ⟨_, rfl, ?_⟩
        obtain ⟨_, _, _, b3, b4⟩ := hI.ra.2.2.2 i hi
        show f_X10_meanPrice_21B N ρ (nI s) K (f_X10_meanPrice_21 N ρ (nI s) K m) _ _ (nI i) h = f_X10_meanPrice_21 N ρ (nI s) K m (zsm (fun j => if xm_i h 303 (57 + 5 * j + 3) = nI s then xm_i h 303 (57 + 5 * j + 4) else 0) i + (if xm_i h 303 (57 + 5 * i + 3) = nI s then xm_i h 303 (57 + 5 * i + 4) else 0)) (nI (zct (fun j => decide (xm_i h 303 (57 + 5 * j + 3) = nI s)) i + (if decide (xm_i h 303 (57 + 5 * i + 3) = nI s) = true then 1 else 0))) (nI (i + 1)) h
        generalize f_X10_meanPrice_21 N ρ (nI s) K m = rec
        unfold f_X10_meanPrice_21B
        rw [hI.e2, if_pos (nI_lt hi (by omega)), if_pos (zb_in (by omega) (by decide)), nI_clamp (by omega), b3, b4]
        by_cases hc : xm_i h 303 (57 + 5 * i + 3) = nI s
        · rw [if_pos hc, if_pos hc, if_pos (decide_eq_true hc), nI_1, nI_1]
        · rw [if_neg hc, if_neg hc, if_neg (by simpa using hc), nI_1, zadd0]
          rfl
      · intro m s' hs'
        subst hs'
        show f_X10_meanPrice_21B N ρ (nI s) K (f_X10_meanPrice_21 N ρ (nI s) K m) _ _ (nI n) h = _
        unfold f_X10_meanPrice_21B
        rw [hI.e2, if_neg (zlt_irr _)]
    have hmod : ∀ K g, xm_i g 303 = xm_i h 303 → f_X11_meanPrice_31 N (nI s) K N 0 0 0 g = K (nI M) (nI (zct (fun j => decide (xm_i h 303 (57 + 5 * j + 3) = nI s)) n)) g := by
      intro K g hg
      rw [← M2]
      refine zlp0 (N := N) (F := fun n s' => f_X11_meanPrice_31 N (nI s) K n s'.1 s'.2.1 s'.2.2.1 s'.2.2.2) (I := fun i s' => s' = (zsm (fun j => if xm_i h 303 (57 + 5 * j + 3) = nI s then xm_i h 303 (57 + 5 * j + 4) else 0) i, nI (zct (fun j => decide (xm_i h 303 (57 + 5 * j + 3) = nI s)) i), nI i, g)) (L := n) (s := (0, 0, 0, g)) (by omega) rfl ?_ ?_
      · intro m i s' hi hs'
        subst hs'
        refine ⟨_, rfl, ?_⟩
        show f_X11_meanPrice_31B N (nI s) K (f_X11_meanPrice_31 N (nI s) K m) _ _ (nI i) g = f_X11_meanPrice_31 N (nI s) K m (zsm (fun j => if xm_i h 303 (57 + 5 * j + 3) = nI s then xm_i h 303 (57 + 5 * j + 4) else 0) i + (if xm_i h 303 (57 + 5 * i + 3) = nI s then xm_i h 303 (57 + 5 * i + 4) else 0)) (nI (zct (fun j => decide (xm_i h 303 (57 + 5 * j + 3) = nI s)) i + (if decide (xm_i h 303 (57 + 5 * i + 3) = nI s) = true then 1 else 0))) (nI (i + 1)) g
        generalize f_X11_meanPrice_31 N (nI s) K m = rec
        unfold f_X11_meanPrice_31B
        rw [hg, show xm_i h 303 1 = nI n from hI.ws.2.2.2.1, if_pos (nI_lt hi (by omega)), zs_im3 (by omega), xb_some, hg]
        by_cases hc : xm_i h 303 (57 + 5 * i + 3) = nI s
        · rw [if_pos hc, if_pos hc, if_pos (decide_eq_true hc), zs_im4 (by omega), xb_some, hg, nI_1, nI_1]
        · rw [if_neg hc, if_neg hc, if_neg (by simpa using hc), zx_0, nI_1]
      · intro m s' hs'
        subst hs'
        show f_X11_meanPrice_31B N (nI s) K (f_X11_meanPrice_31 N (nI s) K m) _ _ (nI n) g = _
        unfold f_X11_meanPrice_31B
        rw [hg, show xm_i h 303 1 = nI n from hI.ws.2.2.2.1, if_neg (zlt_irr _)]
    generalize zct (fun j => decide (xm_i h 303 (57 + 5 * j + 3) = nI s)) n = P at *
    refine zopD_ok (h2 := xm_si (xm_sd h 317 0 (if P = 0 then FP.dconst0 else FP.ddiv (FP.i2d (nI M)) (FP.i2d (nI P)))) 302 4 0) (v := if P = 0 then FP.dconst0 else FP.ddiv (FP.i2d (nI M)) (FP.i2d (nI P))) ?_ ?_ (zF.si zscr4) xi_eq
    · unfold f_L_meanPrice f_X10_meanPrice
      rw [zq_s1 hI.s3 (by omega) hs, xe_inl, hcls, zc_quo (by omega) (by omega), xb_some, xe_inl]
      rfl
    · unfold f_X11_meanPrice
      rw [hb, xb_some, xi_sd, hI.T2, zbt_1 (nI_pos (by omega)) (znlt_m1 (by omega) hs), zs_good1, xb_some, if_neg (by decide), hmod _ _ (by rw [zU_ot (by decide), xi_sd])]
      by_cases h0 : P = 0
      · rw [if_pos (by rw [h0]; rfl), if_pos h0]
      · rw [if_neg (nI_ne0 (by omega) (by omega)), if_pos (zPos_div (zPos_i2d (by omega)) (by omega) (by omega)).g, if_neg h0]
/-- conversions in the reference -/
theorem zs_leads {i k cn : Nat} (hi : i < 400) (hk : k < 40) (hcn : cn ≤ 400) (e : xm_i h 303 (2057 + 4 * k + 3) = nI cn) : f_X11_leads (nI i) (nI k) h = some (zi (decide (i < cn) && zLd (xm_i h 303) (xm_i h 308) k i), h) := by
  unfold f_X11_leads
  rw [zs_cv3 hk, xb_some, e]
  by_cases h1 : i < cn
  · rw [if_pos (nI_lt h1 (by omega)), zs_im1 hi, xb_some, zs_cv1 hk, xb_some, decide_eq_true h1, Bool.true_and]
    by_cases h2 : xm_i h 303 (57 + 5 * i + 1) = xm_i h 303 (2057 + 4 * k + 1)
    · rw [if_pos h2, zs_im0 hi, xb_some, zs_cv0 hk, xb_some]
      by_cases h3 : xm_i h 303 (57 + 5 * i) < xm_i h 303 (2057 + 4 * k) - xm_i h 308 1
      · rw [if_pos h3, show zLd (xm_i h 303) (xm_i h 308) k i = false from decide_eq_false (fun z => z.2 h3)]
        rfl
      · rw [if_neg h3, show zLd (xm_i h 303) (xm_i h 308) k i = true from decide_eq_true ⟨h2, h3⟩]
        rfl
    · rw [if_neg h2, show zLd (xm_i h 303) (xm_i h 308) k i = false from decide_eq_false (fun z => h2 z.1)]
      rfl
  · rw [if_neg (nI_nlt (by omega) (by omega)), decide_eq_false h1]
    rfl
/-- the last impression that leads, as its campaign -/
theorem zs_last {k cn : Nat} (hN : 1000 ≤ N) (hk : k < 40) (hcn : cn ≤ n) (hn : n ≤ 400) (hS : xm_i h 303 1 = nI n) (e : xm_i h 303 (2057 + 4 * k + 3) = nI cn) : ∃ v, f_X11_lastOf N (nI k) h = some (v, h) ∧ f_X11_campaignAt v h = some (zLst (xm_i h 303) (xm_i h 308) k cn, h) ∧ (v = -1 ↔ zct (zLd (xm_i h 303) (xm_i h 308) k) cn = 0) := by
  have key : ∀ (m p fu : Nat), p ≤ n → p < fu → (m = min p cn) → ∃ v, f_X11_lastOf_9 N (nI k) fu (nI p - 1) h = some (v, h) ∧ f_X11_campaignAt v h = some (zLst (xm_i h 303) (xm_i h 308) k m, h) ∧ (v = -1 ↔ zct (zLd (xm_i h 303) (xm_i h 308) k) m = 0) := by
    intro m p
    induction p generalizing m with
    | zero =>
      intro fu hp hf hm
      match fu, hf with
      | fu + 1, hf =>
        have hm0 : m = 0 := by omega
        subst hm0
        refine ⟨-1, ?_, rfl, ⟨fun _ => rfl, fun _ => rfl⟩⟩
        show f_X11_lastOf_9B N (nI k) _ (nI 0 - 1) h = _
        unfold f_X11_lastOf_9B
        rw [if_pos (by decide)]
    | succ p ih =>
      intro fu hp hf hm
      match fu, hf with
      | fu + 1, hf =>
        rw [nI_pred]
        show ∃ v, f_X11_lastOf_9B N (nI k) (f_X11_lastOf_9 N (nI k) fu) (nI p) h = some (v, h) ∧ _
        unfold f_X11_lastOf_9B
        rw [if_neg (nI_pos (by omega)), zs_leads (by omega) hk (by omega) e, xb_some]
        by_cases hl : (decide (p < cn) && zLd (xm_i h 303) (xm_i h 308) k p) = true
        · rw [hl, if_neg (by decide : ¬ zi true = 0)]
          rw [Bool.and_eq_true] at hl
          have hpc := of_decide_eq_true hl.1
          have hmp : m = p + 1 := by omega
          subst hmp
          have hne : ¬ nI p = -1 := fun z => by
            have := nI_pos (n := p) (by omega)
            rw [z] at this
            exact this (by decide)
          refine ⟨nI p, rfl, ?_, ⟨fun z => absurd z hne, fun z => ?_⟩⟩
          · unfold f_X11_campaignAt
            rw [if_neg hne, zs_im2 (by omega), xb_some]
            unfold zLst
            rw [if_pos hl.2]
          · exfalso
            have : zct (zLd (xm_i h 303) (xm_i h 308) k) (p + 1) = zct (zLd (xm_i h 303) (xm_i h 308) k) p + (if zLd (xm_i h 303) (xm_i h 308) k p = true then 1 else 0) := rfl
            rw [this, if_pos hl.2] at z
            omega
        · have hl2 : (decide (p < cn) && zLd (xm_i h 303) (xm_i h 308) k p) = false := by simpa using hl
          rw [hl2, if_pos (by decide : zi false = 0), show nI p + (-1 : Int32) = nI p - 1 from (Int32.sub_eq_add_neg (nI p) 1).symm]
          by_cases hpc : p < cn
          · have hmp : m = p + 1 := by omega
            subst hmp
            have hz : zLd (xm_i h 303) (xm_i h 308) k p = false := by
              rw [decide_eq_true hpc, Bool.true_and] at hl2
              exact hl2
            obtain ⟨v, v1, v2, v3⟩ := ih p fu (by omega) (by omega) (by omega)
            refine ⟨v, v1, ?_, ?_⟩
            · rw [v2]
              show _ = some ((if zLd (xm_i h 303) (xm_i h 308) k p = true then xm_i h 303 (57 + 5 * p + 2) else zLst (xm_i h 303) (xm_i h 308) k p), h)
              rw [hz, if_neg (by decide)]
            · rw [v3]
              show _ ↔ zct (zLd (xm_i h 303) (xm_i h 308) k) p + (if zLd (xm_i h 303) (xm_i h 308) k p = true then 1 else 0) = 0
              rw [hz, if_neg (by decide), Nat.add_zero]
          · exact ih m fu (by omega) (by omega) (by omega)
  obtain ⟨v, v1, v2, v3⟩ := key cn n N (Nat.le_refl _) (by omega) (by omega)
  refine ⟨v, ?_, v2, v3⟩
  unfold f_X11_lastOf
  rw [hS]
  exact v1
/-- the first one -/
theorem zs_first {k cn : Nat} (hN : 1000 ≤ N) (hk : k < 40) (hcn : cn ≤ n) (hn : n ≤ 400) (hS : xm_i h 303 1 = nI n) (e : xm_i h 303 (2057 + 4 * k + 3) = nI cn) : ∃ v, f_X11_firstOf N (nI k) h = some (v, h) ∧ f_X11_campaignAt v h = some (zFst (xm_i h 303) (xm_i h 308) k cn, h) := by
  have hno : ∀ m, zct (zLd (xm_i h 303) (xm_i h 308) k) m = 0 → zFst (xm_i h 303) (xm_i h 308) k m = -1 := by
    intro m hm
    cases m with
    | zero => rfl
    | succ m =>
      have hs : zct (zLd (xm_i h 303) (xm_i h 308) k) (m + 1) = zct (zLd (xm_i h 303) (xm_i h 308) k) m + (if zLd (xm_i h 303) (xm_i h 308) k m = true then 1 else 0) := rfl
      rw [hs] at hm
      unfold zFst
      rw [if_pos (by omega), if_neg]
      intro z
      rw [if_pos z] at hm
      omega
  have hyes : ∀ m p, p < m → zct (zLd (xm_i h 303) (xm_i h 308) k) p = 0 → zLd (xm_i h 303) (xm_i h 308) k p = true → zFst (xm_i h 303) (xm_i h 308) k m = xm_i h 303 (57 + 5 * p + 2) := by
    intro m
    induction m with
    | zero => intro p hp; omega
    | succ m ih =>
      intro p hp h1 h2
      unfold zFst
      by_cases hpm : p = m
      · subst hpm
        rw [if_pos h1, if_pos h2]
      · have hpos : ∀ q, p < q → ¬ zct (zLd (xm_i h 303) (xm_i h 308) k) q = 0 := by
          intro q
          induction q with
          | zero => intro hq; omega
          | succ q ihq =>
            intro hq hz
            have hs : zct (zLd (xm_i h 303) (xm_i h 308) k) (q + 1) = zct (zLd (xm_i h 303) (xm_i h 308) k) q + (if zLd (xm_i h 303) (xm_i h 308) k q = true then 1 else 0) := rfl
            rw [hs] at hz
            by_cases hpq : p = q
            · subst hpq
              rw [if_pos h2] at hz
              omega
            · exact ihq (by omega) (by omega)
        rw [if_neg (hpos m (by omega))]
        exact ih p (by omega) h1 h2
  have key : ∀ (r p fu : Nat), p + r = n → r < fu → zct (zLd (xm_i h 303) (xm_i h 308) k) (min p cn) = 0 → ∃ v, f_X11_firstOf_2 N (nI k) fu (nI p) h = some (v, h) ∧ f_X11_campaignAt v h = some (zFst (xm_i h 303) (xm_i h 308) k cn, h) := by
    intro r
    induction r with
    | zero =>
      intro p fu hp hf hz
      match fu, hf with
      | fu + 1, hf =>
        refine ⟨-1, ?_, ?_⟩
        · show f_X11_firstOf_2B N (nI k) _ (nI p) h = _
          unfold f_X11_firstOf_2B
          rw [hS, if_neg (nI_nlt (by omega) (by omega))]
        · rw [show min p cn = cn by omega] at hz
          rw [hno cn hz]
          rfl
    | succ r ih =>
      intro p fu hp hf hz
      match fu, hf with
      | fu + 1, hf =>
        show ∃ v, f_X11_firstOf_2B N (nI k) (f_X11_firstOf_2 N (nI k) fu) (nI p) h = some (v, h) ∧ _
        unfold f_X11_firstOf_2B
        rw [hS, if_pos (nI_lt (by omega) (by omega)), zs_leads (by omega) hk (by omega) e, xb_some]
        by_cases hl : (decide (p < cn) && zLd (xm_i h 303) (xm_i h 308) k p) = true
        · rw [hl, if_neg (by decide : ¬ zi true = 0)]
          rw [Bool.and_eq_true] at hl
          have hpc := of_decide_eq_true hl.1
          have hne : ¬ nI p = -1 := fun z => by
            have := nI_pos (n := p) (by omega)
            rw [z] at this
            exact this (by decide)
          refine ⟨nI p, rfl, ?_⟩
          unfold f_X11_campaignAt
          rw [if_neg hne, zs_im2 (by omega), xb_some, hyes cn p hpc (by rw [show min p cn = p by omega] at hz; exact hz) hl.2]
        · have hl2 : (decide (p < cn) && zLd (xm_i h 303) (xm_i h 308) k p) = false := by simpa using hl
          rw [hl2, if_pos (by decide : zi false = 0), nI_1]
          refine ih (p + 1) fu (by omega) (by omega) ?_
          by_cases hpc : p < cn
          · rw [show min (p + 1) cn = p + 1 by omega]
            rw [show min p cn = p by omega] at hz
            show zct (zLd (xm_i h 303) (xm_i h 308) k) p + (if zLd (xm_i h 303) (xm_i h 308) k p = true then 1 else 0) = 0
            rw [decide_eq_true hpc, Bool.true_and] at hl2
            rw [hl2, if_neg (by decide), hz]
          · rw [show min (p + 1) cn = cn by omega]
            rw [show min p cn = cn by omega] at hz
            exact hz
  obtain ⟨v, v1, v2⟩ := key n 0 N (by omega) (by omega) (by rw [Nat.zero_min]; rfl)
  exact ⟨v, v1, v2⟩
theorem zInv.cvs (hI : zInv ρ δ nc nt nf na n nv ne la nb bo no cap L xs h) : xm_i h 201 3 = nI nv := hI.ra.2.2.1.2.2.2.1.trans hI.ws.2.2.2.2.1
/-- a conversion's part of zInv -/
theorem zInv.rv {k : Nat} (hI : zInv ρ δ nc nt nf na n nv ne la nb bo no cap L xs h) (hk : k < nv) : ∃ cn, cn ≤ n ∧ xm_i h 303 (2057 + 4 * k + 3) = nI cn ∧ xm_i h 229 k = xm_i h 303 (2057 + 4 * k + 2) ∧ xm_i h 230 k = zFst (xm_i h 303) (xm_i h 308) k cn ∧ xm_i h 231 k = zLst (xm_i h 303) (xm_i h 308) k cn ∧ xm_i h 232 k = nI (zct (zLd (xm_i h 303) (xm_i h 308) k) cn) ∧ ∀ c, c < nc → xm_i h 233 (8 * k + c) = nI (zct (fun i => zLd (xm_i h 303) (xm_i h 308) k i && decide (xm_i h 303 (57 + 5 * i + 2) = nI c)) cn) := by
  obtain ⟨cn, b0, b1, b2, b3, b4, b5, b6⟩ := hI.2.2.2.1.2.2.2.1.2.2.2.2.2.2.2 k hk
  obtain ⟨q, q1, q2, q3⟩ := (hI.2.2.2.1.2.2.2.1.2.1 k hk).2.2.2
  have : cn = q := (nI_eq (by omega) (by have := hI.n160; omega)).mp (b1.symm.trans q3)
  exact ⟨cn, by omega, b1, b2, b3, b4, b5, b6⟩
theorem zo_unattributed (hN : 1000 ≤ N) (hI : zInv ρ δ nc nt nf na n nv ne la nb bo no cap L xs h) : zOq (f_X10_unattributed N h) (f_X11_unattributed N) (zRO h) := by
  have h160 := hI.n160
  have h40 : nv ≤ 40 := hI.ws.2.1
  refine zoq_ok (v := zsm (fun k => if xm_i h 232 k = 0 then xm_i h 229 k else 0) nv) (h2 := xm_si h 302 4 0) ?_ ?_ (zF.si zscr4)
  · unfold f_X10_unattributed
    refine zlp0 (N := N) (F := fun n s => f_X10_unattributed_4 N n s.1 s.2.1 s.2.2) (I := fun i s => s = (zsm (fun k => if xm_i h 232 k = 0 then xm_i h 229 k else 0) i, nI i, h)) (L := nv) (s := (0, 0, h)) (by omega) rfl ?_ ?_
    · intro m i s hi hs
      subst hs
      refine ⟨_, rfl, ?_⟩
      show f_X10_unattributed_4B N (f_X10_unattributed_4 N m) _ (nI i) h = f_X10_unattributed_4 N m (zsm (fun k => if xm_i h 232 k = 0 then xm_i h 229 k else 0) i + (if xm_i h 232 i = 0 then xm_i h 229 i else 0)) (nI (i + 1)) h
      unfold f_X10_unattributed_4B
      rw [hI.cvs, if_pos (nI_lt hi (by omega)), if_pos (zb_in (by omega) (by decide)), nI_clamp (by omega), nI_1]
      by_cases hc : xm_i h 232 i = 0
      · rw [if_pos hc, if_pos hc]
      · rw [if_neg hc, if_neg hc, zadd0]
    · intro m s hs
      subst hs
      show f_X10_unattributed_4B N (f_X10_unattributed_4 N m) _ (nI nv) h = _
      unfold f_X10_unattributed_4B
      rw [hI.cvs, if_neg (zlt_irr _)]
  · unfold f_X11_unattributed
    simp only [xl]
    have e : xm_i (xm_si h 302 4 0) 303 = xm_i h 303 := zU_ot (by decide)
    have eT : xm_i (xm_si h 302 4 0) 308 = xm_i h 308 := zU_ot (by decide)
    refine zlp0 (N := N) (F := fun n s => f_X11_unattributed_9 N n s.1 s.2.1 s.2.2) (I := fun i s => s = (zsm (fun k => if xm_i h 232 k = 0 then xm_i h 229 k else 0) i, nI i, xm_si h 302 4 0)) (L := nv) (s := (0, 0, xm_si h 302 4 0)) (by omega) rfl ?_ ?_
    · intro m i s hi hs
      subst hs
      refine ⟨_, rfl, ?_⟩
      obtain ⟨cn, c1, c2, c3, c4, c5, c6, c7⟩ := hI.rv hi
      obtain ⟨v, v1, v2, v3⟩ := zs_last (N := N) (n := n) (k := i) (cn := cn) (h := xm_si h 302 4 0) hN (by omega) c1 (by omega) (by rw [e]; exact hI.ws.2.2.2.1) (by rw [e]; exact c2)
      rw [e, eT] at v3
      show f_X11_unattributed_9B N (f_X11_unattributed_9 N m) _ (nI i) (xm_si h 302 4 0) = f_X11_unattributed_9 N m (zsm (fun k => if xm_i h 232 k = 0 then xm_i h 229 k else 0) i + (if xm_i h 232 i = 0 then xm_i h 229 i else 0)) (nI (i + 1)) (xm_si h 302 4 0)
      unfold f_X11_unattributed_9B
      rw [e, show xm_i h 303 2 = nI nv from hI.ws.2.2.2.2.1, if_pos (nI_lt hi (by omega)), v1, xb_some, c6, c3]
      have hz : (nI (zct (zLd (xm_i h 303) (xm_i h 308) i) cn) = 0) ↔ v = -1 := by
        rw [v3]
        have := zct_le (zLd (xm_i h 303) (xm_i h 308) i) cn
        exact nI_eq (b := 0) (by omega) (by omega)
      by_cases hv : v = -1
      · rw [if_pos hv, if_pos (hz.mpr hv), zs_cv2 (by omega), xb_some, e, nI_1]
      · rw [if_neg hv, if_neg (fun q => hv (hz.mp q)), nI_1]
    · intro m s hs
      subst hs
      show f_X11_unattributed_9B N (f_X11_unattributed_9 N m) _ (nI nv) _ = _
      unfold f_X11_unattributed_9B
      rw [e, show xm_i h 303 2 = nI nv from hI.ws.2.2.2.2.1, if_neg (zlt_irr _)]
end Imp2
