/-! the floor that earns the most: the class's walk over the places, the reference's search, the call -/
section Best3
variable {N ρ δ nc nt nf na n nv ne la nb bo no cap L : Nat} {xs : zV} {S T : zV} {h : xm_H} {x y z w : Int32} {l : List Nat} {k : Nat}
def zPc (len i : Nat) : Int32 := if i < len then nI (len - 1 - i) else -1
theorem zPc_0 {len : Nat} (h : len ≤ 8) : nI len - 1 = zPc len 0 := by
  unfold zPc
  by_cases h0 : 0 < len
  · rw [if_pos h0, show (1 : Int32) = nI 1 from rfl, pk_sub h0, Nat.sub_zero]
  · have : len = 0 := by omega
    subst this
    decide
theorem zPc_s {len i : Nat} (h : len ≤ 8) (hi : i < len) : nI (len - 1 - i) + -1 = zPc len (i + 1) := by
  unfold zPc
  by_cases h0 : i + 1 < len
  · rw [if_pos h0, show len - 1 - i = (len - 1 - (i + 1)) + 1 by omega, pk_m1]
  · rw [if_neg h0, show len - 1 - i = 0 by omega]
    decide
theorem zE_bd (hq : ∀ x ∈ l, ∃ q, q ≤ 999 ∧ 1 ≤ q ∧ zEf S x = nI q) (hWT : ∀ j, j < nf → zB 1 100 (T (3 + j))) (hk : k ≤ nf) (hnf : nf ≤ 4) {f : Nat} (hf : f ≤ 1000) : zE S T na k l f ≤ 4004 := by
  refine (zE_row (na := na) hq hWT hk hnf (f := f) hf (R := fun j => zPr (zEf S) T l (nI f) j ((zWf S T na k l f).getD j (0, 0)).1) ?_).2
  intro j w hw
  rw [List.getD_eq_getElem?_getD, hw]
  rfl
theorem zc_most (hN : 1000 ≤ N) (hρ : xIsR ρ) (hRT : zRT ρ nc nf na T h) (hWT : ∀ j, j < nf → zB 1 100 (T (3 + j))) (hnc : nc ≤ 8) (hk1 : 1 ≤ k) (hk : k ≤ nf) (hnf : nf ≤ 4) (hln : l.length ≤ 8) (hl : ∀ x ∈ l, x < nc) (hs : zSd (zEf S) l) (hq : ∀ x ∈ l, ∃ q, q ≤ 999 ∧ 1 ≤ q ∧ zEf S x = nI q) (hct : xm_i h 182 6 = nI l.length) (hR : zRow (xm_i h 217) l) (he : ∀ x ∈ l, xm_i h 216 x = zEf S x) : ∃ h1 M en, (∀ K, f_X2_mostEarningFloor_21 N ρ (nI k) K N 0 0 (nI l.length - 1) h = K (nI M) (nI en) h1) ∧ zF (fun a q => a = 218 ∨ a = 219 ∨ (a = 182 ∧ q = 9)) h h1 ∧ M ≤ 4004 ∧ en ≤ 999 ∧ (∀ v ∈ l.map (zq S), zE S T na k l v ≤ M) ∧ ((l.map (zq S) = [] ∧ M = 0 ∧ en = 0) ∨ (en ∈ l.map (zq S) ∧ zE S T na k l en = M ∧ ∀ v ∈ l.map (zq S), v < en → zE S T na k l v < M)) := by
  have hr164 : ρ = 164 ∨ ρ = 183 := hρ
  obtain ⟨m, ⟨c4, c5, c6, h1⟩, ⟨M, en, e1, e2, e3, e4, e5, e6, e7, e8⟩, hE⟩ := zlpO (N := N) (F := fun n s => fun K => f_X2_mostEarningFloor_21 N ρ (nI k) K n s.1 s.2.1 s.2.2.1 s.2.2.2) (I := fun i s => ∃ M en, s.1 = nI M ∧ s.2.1 = nI en ∧ s.2.2.1 = zPc l.length i ∧ zF (fun a q => a = 218 ∨ a = 219 ∨ (a = 182 ∧ q = 9)) h s.2.2.2 ∧ M ≤ 4004 ∧ en ≤ 999 ∧ (∀ v ∈ (l.drop (l.length - i)).map (zq S), zE S T na k l v ≤ M) ∧ (((l.drop (l.length - i)).map (zq S) = [] ∧ M = 0 ∧ en = 0) ∨ (en ∈ (l.drop (l.length - i)).map (zq S) ∧ zE S T na k l en = M ∧ ∀ v ∈ (l.drop (l.length - i)).map (zq S), v < en → zE S T na k l v < M))) (L := l.length) (s := (0, 0, nI l.length - 1, h)) (by omega) ⟨0, 0, rfl, rfl, zPc_0 hln, zF.rf, by omega, by omega, by simp, Or.inl ⟨by simp, rfl, rfl⟩⟩ (by
    rintro m i ⟨c4, c5, c6, h1⟩ hi ⟨M, en, e1, e2, e3, e4, e5, e6, e7, e8⟩
    dsimp only at e1 e2 e3 e4 ⊢
    subst e1
    subst e2
    rw [show zPc l.length i = nI (l.length - 1 - i) from if_pos hi] at e3
    subst e3
    obtain ⟨p, hp⟩ : ∃ p, l.length - 1 - i = p := ⟨_, rfl⟩
    have hpl : p < l.length := by omega
    have hx := List.getElem?_eq_getElem hpl
    have hxm := List.getElem_mem hpl
    have hdr : l.drop p = l[p] :: l.drop (p + 1) := List.drop_eq_getElem_cons hpl
    have hr := hR p _ hx
    generalize hxe : l[p] = x at *
    obtain ⟨a1, a2, a3⟩ := zq_ok hq hxm
    have hxn := hl x hxm
    obtain ⟨r1, r2, r3⟩ := e4.rk
    have h217 : xm_i h1 217 p = nI x := by rw [r2]; exact hr
    have h216 : xm_i h1 216 x = nI (zq S x) := by rw [r3, he x hxm, a1]
    obtain ⟨h2, g1, g2⟩ := zc_earn (N := N) (ρ := ρ) (nc := nc) (nf := nf) (na := na) (S := S) (T := T) (h := h1) (l := l) (k := k) (f := zq S x) hN hρ (zRT.fr hρ e4 (fun a k z w => by omega) hnc hRT) hWT hnc hk hnf hln hl hq (r1.trans hct) (by rw [r2]; exact hR) (by rw [r3]; exact he) (by omega)
    have hEb := zE_bd (na := na) hq hWT hk hnf (f := zq S x) (by omega)
    rw [show l.length - i = p + 1 by omega] at e7 e8
    rw [show l.length - (i + 1) = p by omega, hdr, List.map_cons]
    have hge : ∀ v ∈ (l.drop (p + 1)).map (zq S), v ≤ zq S x := by
      intro v hv
      obtain ⟨y, hy, rfl⟩ := List.mem_map.mp hv
      have hpw : (x :: l.drop (p + 1)).Pairwise (fun x y => ¬ zEf S x < zEf S y) := by
        rw [← hdr]
        exact List.Pairwise.sublist (List.drop_sublist _ _) hs
      have h5 := (List.pairwise_cons.mp hpw).1 y hy
      obtain ⟨b1, b2, b3⟩ := zq_ok hq (List.mem_of_mem_drop hy)
      rw [a1, b1, nI_ltI (by omega) (by omega)] at h5
      omega
    have hstep : ∀ K, f_X2_mostEarningFloor_21 N ρ (nI k) K (m + 1) (nI M) (nI en) (nI (l.length - 1 - i)) h1 = if M < zE S T na k l (zq S x) then f_X2_mostEarningFloor_21 N ρ (nI k) K m (nI (zE S T na k l (zq S x))) (nI (zq S x)) (zPc l.length (i + 1)) h2 else f_X2_mostEarningFloor_21 N ρ (nI k) K m (nI M) (nI en) (zPc l.length (i + 1)) h2 := by
      intro K
      show f_X2_mostEarningFloor_21B N ρ (nI k) K (f_X2_mostEarningFloor_21 N ρ (nI k) K m) (nI M) (nI en) (nI (l.length - 1 - i)) h1 = _
      generalize f_X2_mostEarningFloor_21 N ρ (nI k) K m = rec
      unfold f_X2_mostEarningFloor_21B
      rw [← zPc_s hln hi, hp, if_neg (nI_pos (by omega)), if_pos (zb_in (by omega) (by decide))]
      simp only [nI_clamp (show p < 2 ^ 31 by omega), h217, if_pos (zb_in (show x < 8 by omega) (by decide)), nI_clamp (show x < 2 ^ 31 by omega), h216, g1, xb_some]
      by_cases hm : M < zE S T na k l (zq S x)
      · rw [if_pos (nI_lt hm (by omega)), if_pos hm]
      · rw [if_neg (nI_nlt (by omega) (by omega)), if_neg hm]
    have hVx := zE_V (na := na) hs hq hWT hk1 hk (v := zq S x) (List.mem_map.mpr ⟨x, hxm, rfl⟩)
    by_cases hm : M < zE S T na k l (zq S x)
    · refine ⟨(nI (zE S T na k l (zq S x)), nI (zq S x), zPc l.length (i + 1), h2), ⟨_, _, rfl, rfl, rfl, e4.tr g2, hEb, a3, ?_, Or.inr ⟨List.mem_cons_self, rfl, ?_⟩⟩, ?_⟩
      · intro v hv
        rcases List.mem_cons.mp hv with rfl | hv
        · exact Nat.le_refl _
        · have := e7 v hv
          omega
      · intro v hv hlt
        rcases List.mem_cons.mp hv with rfl | hv
        · omega
        · have := e7 v hv
          omega
      · funext K
        refine (hstep K).trans ?_
        rw [if_pos hm]
    · refine ⟨(nI M, nI en, zPc l.length (i + 1), h2), ⟨_, _, rfl, rfl, rfl, e4.tr g2, e5, e6, ?_, Or.inr ?_⟩, ?_⟩
      · intro v hv
        rcases List.mem_cons.mp hv with rfl | hv
        · omega
        · exact e7 v hv
      · rcases e8 with ⟨f1, f2, f3⟩ | ⟨f1, f2, f3⟩
        · omega
        · refine ⟨List.mem_cons_of_mem _ f1, f2, fun v hv hlt => ?_⟩
          rcases List.mem_cons.mp hv with rfl | hv
          · have := hge en f1
            omega
          · exact f3 v hv hlt
      · funext K
        refine (hstep K).trans ?_
        rw [if_neg hm])
  dsimp only at e1 e2 e3 e4
  subst e1
  subst e2
  rw [show zPc l.length l.length = -1 from if_neg (by omega)] at e3
  subst e3
  rw [Nat.sub_self, List.drop_zero] at e7 e8
  refine ⟨h1, M, en, fun K => ?_, e4, e5, e6, e7, e8⟩
  refine (congrFun hE K).trans ?_
  show f_X2_mostEarningFloor_21B N ρ (nI k) K (f_X2_mostEarningFloor_21 N ρ (nI k) K m) (nI M) (nI en) (-1) h1 = _
  unfold f_X2_mostEarningFloor_21B
  rw [if_pos (by decide)]
/-- a floor that is tried -/
theorem zf_ef {t x : Nat} (v : Int32) (hx : x < 8) : zEf (zU S (51 + t) v) x = zEf S x := by
  unfold zEf
  rw [zU_ne (by omega), zU_ne (by omega)]
theorem zf_rc {t x : Nat} {u v : Int32} (ht : t < 6) : zRc (zU S (51 + t) v) T x u n = zRc S T x u n := by
  unfold zRc
  refine zct_congr (fun i _ => ?_)
  unfold zRp
  rw [zU_ne (by omega), zU_ne (by omega), zU_ne (by omega), zU_ne (by omega)]
theorem zf_rf {t x : Nat} {rc tag e fl v : Int32} (hx : x < 8) : zRf (zU S (51 + t) v) T rc x tag e fl = zRf S T rc x tag e fl := by
  unfold zRf zLf zPl
  rw [zU_ne (show 3 + 6 * x + 5 ≠ 51 + t by omega), zU_ne (show 3 + 6 * x + 1 ≠ 51 + t by omega), zU_ne (show 3 + 6 * x + 2 ≠ 51 + t by omega), zU_ne (show 3 + 6 * x + 4 ≠ 51 + t by omega), zU_ne (show 0 ≠ 51 + t by omega)]
/-- the ranking at a floor is what the floor leaves of the ranking without one -/
theorem zf_L {t f : Nat} {u : Int32} (ht : t < 6) (hnc : nc ≤ 8) (hf : f ≤ 1000) (hq : ∀ x, x < nc → ∃ q, q ≤ 999 ∧ 1 ≤ q ∧ zEf S x = nI q) : zL (zU S (51 + t) (nI f)) T n u t nc = (zRk (zEf S) (zCn S T n u t 0) nc).takeWhile (fun c => !decide (zEf S c < nI f)) := by
  have h1 : zL (zU S (51 + t) (nI f)) T n u t nc = zRk (zEf S) (zCn S T n u t (nI f)) nc := by
    unfold zL
    refine zRk_congr (fun c hc => ?_) (fun c hc _ => zf_ef _ (by omega))
    unfold zCon zCn
    rw [zf_ef _ (by omega), zf_rc ht, zf_rf (by omega), zU_eq]
  rw [h1, ztw_filter (zRk_sd _ _ _)]
  refine zuniq (r := zBf (zEf S)) (fun x y => zBf_as) (zRk_str _ _ _) (List.Pairwise.filter _ (zRk_str _ _ _)) (fun x => ?_)
  rw [zRk_mem, List.mem_filter, zRk_mem]
  unfold zCn
  rw [decide_eq_true_iff, decide_eq_true_iff, zRf_iff, zRf_iff]
  constructor
  · rintro ⟨a1, a2, a3, a4⟩
    obtain ⟨q, q1, q2, q3⟩ := hq x a1
    refine ⟨⟨a1, a2, a3, ?_⟩, by simp [a4]⟩
    rw [q3]
    exact nI_pos (by omega)
  · rintro ⟨⟨a1, a2, a3, _⟩, a4⟩
    exact ⟨a1, a2, a3, by simpa using a4⟩
/-- the reference at one floor -/
theorem zs_earn {t f : Nat} {u : Int32} {h0 h1 : xm_H} (hN : 1000 ≤ N) (hk : k ≤ nf) (hnf : nf ≤ 4) (ht : t < 6) (hna : na ≤ 8) (hnc : nc ≤ 8) (hn : n ≤ 400) (hT : xm_i h0 308 63 = nI na) (hC : xm_i h0 308 14 = nI nc) (hS : xm_i h0 303 1 = nI n) (hd : ¬ xm_i h0 308 0 = 0) (hWT : ∀ j, j < nf → zB 1 100 (xm_i h0 308 (3 + j))) (hq : ∀ x, x < nc → ∃ q, q ≤ 999 ∧ 1 ≤ q ∧ zEf (xm_i h0 303) x = nI q) (hf : f ≤ 1000) (e : zF (fun a k => zsM a k ∨ (a = 303 ∧ k = 51 + t)) h0 h1) : ∃ h2 h3, f_X11_auction N u (nI t) (nI k) (xm_si h1 303 (51 + t) (nI f)) = some ((), h2) ∧ f_X11_sumOfPrices N h2 = some (nI (zE (xm_i h0 303) (xm_i h0 308) na k (zRk (zEf (xm_i h0 303)) (zCn (xm_i h0 303) (xm_i h0 308) n u t 0) nc) f), h3) ∧ zF (fun a k => zsM a k ∨ (a = 303 ∧ k = 51 + t)) h0 h3 := by
  have e1 : zF (fun a k => zsM a k ∨ (a = 303 ∧ k = 51 + t)) h0 (xm_si h1 303 (51 + t) (nI f)) := e.st (Or.inr ⟨rfl, rfl⟩)
  have hrS : xm_i (xm_si h1 303 (51 + t) (nI f)) 303 = zU (xm_i h0 303) (51 + t) (nI f) := by
    funext j
    unfold zU
    by_cases hj : j = 51 + t
    · rw [if_pos hj, hj, xi_eq]
    · rw [if_neg hj]
      rw [e1.i (fun z => by unfold zsM at z; omega)]
  have hrT : xm_i (xm_si h1 303 (51 + t) (nI f)) 308 = xm_i h0 308 := e1.row (fun k z => by unfold zsM at z; omega)
  obtain ⟨h3, a1, a2, a3, a4, a5⟩ := zs_auction (N := N) (n := n) (na := na) (nc := nc) (t := t) (k := k) (u := u) (h := xm_si h1 303 (51 + t) (nI f)) hN (by omega) ht hna hnc hn (by rw [hrT]; exact hT) (by rw [hrT]; exact hC) (by rw [hrS, zU_ne (by omega)]; exact hS) (by rw [hrT]; exact hd)
  rw [hrS, hrT] at a5
  unfold zW at a5
  rw [zf_L ht hnc hf hq, zU_eq] at a5
  generalize hS0 : xm_i h0 303 = S at *
  generalize hT0 : xm_i h0 308 = T at *
  generalize hl0 : zRk (zEf S) (zCn S T n u t 0) nc = l at *
  have hlm : ∀ x ∈ l, x < nc := fun x hx => by rw [← hl0] at hx; exact (zRk_mem.mp hx).1
  have hW : zFl (zAp T na) k (l.takeWhile fun c => !decide (zEf S c < nI f)) 0 [] = zWf S T na k l f := rfl
  rw [hW] at a5
  have hlen := zWf_len (S := S) (T := T) (na := na) (k := k) (l := l) f
  have hee : ∀ p, zBs (zEf (zU S (51 + t) (nI f))) (l.takeWhile fun c => !decide (zEf S c < nI f)) (nI f) p = zBs (zEf S) (l.takeWhile fun c => !decide (zEf S c < nI f)) (nI f) p := by
    intro p
    unfold zBs
    by_cases h1 : p + 1 < (l.takeWhile fun c => !decide (zEf S c < nI f)).length
    · rw [if_pos h1, if_pos h1]
      have hm : (l.takeWhile fun c => !decide (zEf S c < nI f)).getD (p + 1) 0 < 8 := by
        rw [List.getD_eq_getElem?_getD, List.getElem?_eq_getElem h1]
        have := hlm _ ((List.takeWhile_prefix _).subset (List.getElem_mem h1))
        show (l.takeWhile fun c => !decide (zEf S c < nI f))[p + 1] < 8
        omega
      rw [zf_ef _ hm]
    · rw [if_neg h1, if_neg h1]
  have hrow : ∀ j w, (zWf S T na k l f)[j]? = some w → xm_i h3 314 j = zPr (zEf S) T l (nI f) j w.1 := by
    intro j w hw
    rw [a5.2.2 j w hw]
    unfold zPr
    rw [hee, zBs_tw (nI_pos (by omega)) (zWf_pl hw)]
  have hsum := (zE_row (na := na) (fun x hx => hq x (hlm x hx)) hWT hk hnf hf (R := xm_i h3 314) hrow).1
  refine ⟨h3, h3, a1, ?_, e1.tr (a2.mono (fun a k z => Or.inl z))⟩
  unfold f_X11_sumOfPrices
  rw [← hsum]
  refine zlp0 (N := N) (F := fun n s => f_X11_sumOfPrices_4 N n s.1 s.2.1 s.2.2) (I := fun i s => s = (zsm (xm_i h3 314) i, nI i, h3)) (L := (zWf S T na k l f).length) (s := (0, 0, h3)) (by omega) rfl ?_ ?_
  · intro m i s hi hs
    subst hs
    refine ⟨_, rfl, ?_⟩
    show f_X11_sumOfPrices_4B N (f_X11_sumOfPrices_4 N m) (zsm (xm_i h3 314) i) (nI i) h3 = f_X11_sumOfPrices_4 N m (zsm (xm_i h3 314) i + xm_i h3 314 i) (nI (i + 1)) h3
    unfold f_X11_sumOfPrices_4B
    rw [a5.1, if_pos (nI_lt hi (by omega)), if_pos (zb_in (by omega) (by decide)), nI_clamp (by omega), nI_1]
  · intro m s hs
    subst hs
    show f_X11_sumOfPrices_4B N (f_X11_sumOfPrices_4 N m) (zsm (xm_i h3 314) _) (nI (zWf S T na k l f).length) h3 = _
    unfold f_X11_sumOfPrices_4B
    rw [a5.1, if_neg (zlt_irr _)]
/-- the reference's search -/
theorem zs_best {t : Nat} {u c4 : Int32} (hN : 2000 ≤ N) (hk : k ≤ nf) (hnf : nf ≤ 4) (ht : t < 6) (hna : na ≤ 8) (hnc : nc ≤ 8) (hn : n ≤ 400) (hT : xm_i h 308 63 = nI na) (hC : xm_i h 308 14 = nI nc) (hS : xm_i h 303 1 = nI n) (hd : ¬ xm_i h 308 0 = 0) (hWT : ∀ j, j < nf → zB 1 100 (xm_i h 308 (3 + j))) (hq : ∀ x, x < nc → ∃ q, q ≤ 999 ∧ 1 ≤ q ∧ zEf (xm_i h 303) x = nI q) {E : Nat → Nat} (hE : E = zE (xm_i h 303) (xm_i h 308) na k (zRk (zEf (xm_i h 303)) (zCn (xm_i h 303) (xm_i h 308) n u t 0) nc)) : ∃ r h2, (∀ K, f_X11_bestFloor_40 N u (nI t) (nI k) c4 K N 0 (-1) 0 h = K (nI r) h2) ∧ zF (fun a k => zsM a k ∨ (a = 303 ∧ k = 51 + t)) h h2 ∧ r ≤ 999 ∧ (∀ f, f ≤ 999 → E f ≤ E r) ∧ ∀ f, f < r → E f < E r := by
  have hEb : ∀ f, f ≤ 1000 → E f ≤ 4004 := fun f hf => by rw [hE]; exact zE_bd (na := na) (fun x hx => hq x (zRk_mem.mp hx).1) hWT hk hnf hf
  obtain ⟨m, ⟨c5, c6, c7, h1⟩, ⟨e1, e2, e3⟩, hE2⟩ := zlpO (N := N) (F := fun n s => fun K => f_X11_bestFloor_40 N u (nI t) (nI k) c4 K n s.1 s.2.1 s.2.2.1 s.2.2.2) (I := fun i s => s.2.2.1 = nI i ∧ zF (fun a k => zsM a k ∨ (a = 303 ∧ k = 51 + t)) h s.2.2.2 ∧ ((i = 0 ∧ s.1 = 0 ∧ s.2.1 = -1) ∨ ∃ r, r < i ∧ s.1 = nI r ∧ s.2.1 = nI (E r) ∧ (∀ f, f < i → E f ≤ E r) ∧ ∀ f, f < r → E f < E r)) (L := 1000) (s := (0, -1, 0, h)) (by omega) ⟨rfl, zF.rf, Or.inl ⟨rfl, rfl, rfl⟩⟩ (by
    rintro m i ⟨c5, c6, c7, h1⟩ hi ⟨e1, e2, e3⟩
    dsimp only at e1 e2 e3 ⊢
    subst e1
    obtain ⟨h2, h3, g1, g2, g3⟩ := zs_earn (N := N) (nc := nc) (nf := nf) (na := na) (n := n) (k := k) (t := t) (f := i) (u := u) (h0 := h) (h1 := h1) (by omega) hk hnf ht hna hnc hn hT hC hS hd hWT hq (by omega) e2
    rw [← hE] at g2
    have hEi := hEb i (by omega)
    have hstep : ∀ K, f_X11_bestFloor_40 N u (nI t) (nI k) c4 K (m + 1) c5 c6 (nI i) h1 = if c6 < nI (E i) then f_X11_bestFloor_40 N u (nI t) (nI k) c4 K m (nI i) (nI (E i)) (nI (i + 1)) h3 else f_X11_bestFloor_40 N u (nI t) (nI k) c4 K m c5 c6 (nI (i + 1)) h3 := by
      intro K
      show f_X11_bestFloor_40B N u (nI t) (nI k) c4 K (f_X11_bestFloor_40 N u (nI t) (nI k) c4 K m) c5 c6 (nI i) h1 = _
      generalize f_X11_bestFloor_40 N u (nI t) (nI k) c4 K m = rec
      unfold f_X11_bestFloor_40B
      rw [if_neg (show ¬ (999 : Int32) < nI i from nI_nlt (a := 999) (by omega) (by omega)), show (51 : Int32) + nI t = nI (51 + t) from nI_add 51 t, if_pos (zb_in (by omega) (by decide)), nI_clamp (by omega)]
      simp only [xl]
      rw [g1, xb_some, g2, xb_some, nI_1]
    rcases e3 with ⟨k1, k2, k3⟩ | ⟨r, k1, k2, k3, k4, k5⟩
    · have hlt : c6 < nI (E i) := by
        rw [k3, Int32.lt_iff_toInt_lt, nI_toInt (by omega)]
        have : (-1 : Int32).toInt = -1 := rfl
        omega
      refine ⟨(nI i, nI (E i), nI (i + 1), h3), ⟨rfl, g3, Or.inr ⟨i, by omega, rfl, rfl, fun f hf => ?_, fun f hf => by omega⟩⟩, ?_⟩
      · have : f = i := by omega
        rw [this]
        exact Nat.le_refl _
      · funext K
        refine (hstep K).trans ?_
        rw [if_pos hlt]
    · have hEr := hEb r (by omega)
      by_cases hlt : E r < E i
      · refine ⟨(nI i, nI (E i), nI (i + 1), h3), ⟨rfl, g3, Or.inr ⟨i, by omega, rfl, rfl, fun f hf => ?_, fun f hf => ?_⟩⟩, ?_⟩
        · by_cases hfi : f = i
          · rw [hfi]
            exact Nat.le_refl _
          · have := k4 f (by omega)
            omega
        · have := k4 f (by omega)
          omega
        · funext K
          refine (hstep K).trans ?_
          rw [k3, if_pos (nI_lt hlt (by omega))]
      · refine ⟨(c5, c6, nI (i + 1), h3), ⟨rfl, g3, Or.inr ⟨r, by omega, k2, k3, fun f hf => ?_, k5⟩⟩, ?_⟩
        · by_cases hfi : f = i
          · rw [hfi]
            omega
          · exact k4 f (by omega)
        · funext K
          refine (hstep K).trans ?_
          rw [k3, if_neg (nI_nlt (by omega) (by omega))])
  dsimp only at e1 e2 e3
  subst e1
  rcases e3 with ⟨k1, _, _⟩ | ⟨r, k1, k2, k3, k4, k5⟩
  · omega
  subst k2
  refine ⟨r, h1, fun K => ?_, e2, by omega, fun f hf => k4 f (by omega), k5⟩
  refine (congrFun hE2 K).trans ?_
  show f_X11_bestFloor_40B N u (nI t) (nI k) c4 K (f_X11_bestFloor_40 N u (nI t) (nI k) c4 K m) (nI r) c6 (nI 1000) h1 = _
  unfold f_X11_bestFloor_40B
  rw [if_pos (show (999 : Int32) < nI 1000 from nI_lt (a := 999) (by omega) (by omega))]
theorem zo_bestFloor (hN : 2000 ≤ N) (hI : zInv ρ δ nc nt nf na n nv ne la nb bo no cap L xs h) : zOp (f_L_bestFloor N ρ x y z h) (f_X11_bestFloor N x y z) (zRO h) := by
  have hn := hI.n
  have hnc := hI.wt.1
  have hnt := hI.wt.2.1
  have hnf := hI.wt.2.2.2.1
  have hn400 := hI.ws.1
  rcases zix y (n := nt) (by omega) with hy | ⟨t, ht, rfl⟩
  · refine zop_bad (k := 1) (b := 0) zks14 (by decide) ?_ ?_
    · unfold f_L_bestFloor f_X10_bestFloor
      rw [zq_T0 hI.t5 hy, xe_inr, xe_inr]
      rfl
    · obtain ⟨b, hb⟩ := zs_isReq00 (x := x) (y := z) (h := xm_new h (14, 0)) (nf := nf) (by rw [xi_new (by omega)]; exact hI.T2)
      unfold f_X11_bestFloor
      rw [zq_isT0 (n := nt) (by rw [xi_new (by omega)]; exact hI.T7) (by omega) hy, xb_some, hb, xb_some, zs_good_0, xb_some]
      rfl
  rcases zix x (n := 16) (by omega) with hx | ⟨u, hu, rfl⟩
  · refine zop_bad (k := 2) (b := 0) zks15 (by decide) ?_ ?_
    · unfold f_L_bestFloor f_X10_bestFloor
      rw [zq_T1 hI.t5 (by omega) ht, xe_inl, zq_U0 hx, xe_inr, xe_inr]
      rfl
    · unfold f_X11_bestFloor
      rw [zq_isT1 (n := nt) (by rw [xi_new (by omega)]; exact hI.T7) (by omega) ht, xb_some, zs_isReqU hx, xb_some, zs_good_1, xb_some]
      rfl
  rcases zq_ix1 z (n := nf) (by omega) with hw | ⟨k, hk1, hk2, rfl⟩
  · refine zop_bad (k := 2) (b := 0) zks15 (by decide) ?_ ?_
    · unfold f_L_bestFloor f_X10_bestFloor
      rw [zq_T1 hI.t5 (by omega) ht, xe_inl, zq_U1 hu, xe_inl, zq_S0 hI.s3 hw, xe_inr, xe_inr]
      rfl
    · unfold f_X11_bestFloor
      rw [zq_isT1 (n := nt) (by rw [xi_new (by omega)]; exact hI.T7) (by omega) ht, xb_some, zs_isReqS (nf := nf) hu (by rw [xi_new (by omega)]; exact hI.T2) hw, xb_some, zs_good_1, xb_some]
      rfl
  have hWTf : ∀ j, j < nf → zB 1 100 (xm_i h 308 (3 + j)) := hI.wt.2.2.2.2.2.2.2.2.2.2.2.1
  have hqq : ∀ x, x < nc → ∃ q, q ≤ 999 ∧ 1 ≤ q ∧ zEf (xm_i h 303) x = nI q := fun x hx => zef_b hI.ws.2.2.2.2.2.1 hx
  obtain ⟨h1, r1, r2, r3⟩ := zc_rank (N := N) (t := t) (u := nI u) (fl := 0) (by omega) hI.ra hI.wt hI.ws
  have hR1 := hI.ra.fr r2 hnc
  have hlen := zRk_len (zEf (xm_i h 303)) (zCn (xm_i h 303) (xm_i h 308) n (nI u) t 0) nc
  have hlm : ∀ x ∈ zRk (zEf (xm_i h 303)) (zCn (xm_i h 303) (xm_i h 308) n (nI u) t 0) nc, x < nc := fun x hx => (zRk_mem.mp hx).1
  have hls := zRk_sd (zEf (xm_i h 303)) (zCn (xm_i h 303) (xm_i h 308) n (nI u) t 0) nc
  generalize hl0 : zRk (zEf (xm_i h 303)) (zCn (xm_i h 303) (xm_i h 308) n (nI u) t 0) nc = l at *
  have hlq : ∀ x ∈ l, ∃ q, q ≤ 999 ∧ 1 ≤ q ∧ zEf (xm_i h 303) x = nI q := fun x hx => hqq x (hlm x hx)
  obtain ⟨h2, M, en, m1, m2, m3, m4, m5, m6⟩ := zc_most (N := N) (na := na) (S := xm_i h 303) (k := k) (by omega) hI.ra.1 hR1.2.1 hWTf hnc hk1 hk2 hnf (by omega) hlm hls hlq r3.1 r3.2.1 (fun x hx => r3.2.2.1 x (hlm x hx))
  obtain ⟨q1, q2, q3⟩ := m2.rk
  obtain ⟨h3, b1, b2⟩ := zc_half (N := N) (na := na) (S := xm_i h 303) (k := k) (l := l) (M := M) (h0 := h2) (by omega) hI.ra.1 (zRT.fr hI.ra.1 m2 (fun a k z w => by have := hI.ra.1.lt; omega) hnc hR1.2.1) hWTf hnc hk2 hnf (by omega) hlm hlq (q1.trans r3.1) (by rw [q2]; exact r3.2.1) (by rw [q3]; exact fun x hx => r3.2.2.1 x (hlm x hx)) (by omega) 0 N 0 en h2 (by omega) (by omega) (by omega) (by omega) zF.rf
  have hF : zF zscr h h3 := ((r2.mono (fun a k => zsC_scr)).tr (m2.mono (fun a k z => by unfold zscr; omega))).tr (b2.mono (fun a k z => by unfold zscr; omega))
  -- the reference
  have hgS : ∀ v, xm_i (xm_si (xm_sl h3 316 0 v) 302 4 0) 303 = xm_i h 303 := fun v => by rw [zU_ot (by decide), xi_sl, zrS hF]
  have hgT : ∀ v, xm_i (xm_si (xm_sl h3 316 0 v) 302 4 0) 308 = xm_i h 308 := fun v => by rw [zU_ot (by decide), xi_sl, zrT hF]
  obtain ⟨r, h4, d1, d2, d3, d4, d5⟩ := zs_best (N := N) (nc := nc) (nf := nf) (na := na) (n := n) (k := k) (t := t) (u := nI u) (c4 := xm_i h 303 (51 + t)) (h := xm_si (xm_sl h3 316 0 (Int32.toInt64 (nI (zHv (zE (xm_i h 303) (xm_i h 308) na k l) M (12 - 0) 0 en)))) 302 4 0) hN hk2 hnf (by omega) hI.wt.2.2.2.2.1 hnc hn400 (by rw [hgT]; exact hI.wt.2.2.2.2.2.2.2.2.1) (by rw [hgT]; exact hI.T14) (by rw [hgS]; exact hI.ws.2.2.2.1) (by rw [hgT]; exact hI.d0) (by rw [hgT]; exact hWTf) (by rw [hgS]; exact hqq) (E := zE (xm_i h 303) (xm_i h 308) na k l) (by rw [hgS, hgT, hl0])
  have hEq := zbest (E := fun f => if f ≤ 1000 then zE (xm_i h 303) (xm_i h 308) na k l f else 0) (V := l.map (zq (xm_i h 303))) (M := M) (en := en) (rm := r) (fun v hv => by
      have := zE_V (na := na) hls hlq hWTf hk1 hk2 hv
      rw [if_pos (show v ≤ 1000 by omega)]
      exact this) (fun f g hfg hv => by
      by_cases hg : g ≤ 1000
      · rw [if_pos hg, if_pos (show f ≤ 1000 by omega)]
        exact zE_H1 hls hlq hfg hv hg
      · rw [if_neg hg]
        by_cases hf : f ≤ 1000
        · rw [if_pos hf]
          refine Nat.le_of_eq (zE_H0 hls hlq hf (fun v hv2 => ?_))
          rcases Nat.lt_or_ge v f with h9 | h9
          · exact h9
          · have h8 := hv v hv2 h9
            have h7 := (zE_V (na := na) (k := k) hls hlq hWTf hk1 hk2 hv2).1
            omega
        · rw [if_neg hf]
          exact Nat.le_refl _) (fun f hv => by
      by_cases hf : f ≤ 1000
      · rw [if_pos hf]
        exact zE_H0 hls hlq hf hv
      · rw [if_neg hf]) (fun v hv => by
      have := zE_V (na := na) (k := k) hls hlq hWTf hk1 hk2 hv
      rw [if_pos (show v ≤ 1000 by omega)]
      exact m5 v hv) (by
      rcases m6 with z | ⟨z1, z2, z3⟩
      · exact Or.inl z
      · refine Or.inr ⟨z1, by rw [if_pos (show en ≤ 1000 by omega)]; exact z2, fun v hv hlt => ?_⟩
        rw [if_pos (show v ≤ 1000 by omega)]
        exact z3 v hv hlt) d3 (fun f hf => by
      rw [if_pos (show f ≤ 1000 by omega), if_pos (show r ≤ 1000 by omega)]
      exact d4 f hf) (fun f hf => by
      rw [if_pos (show f ≤ 1000 by omega), if_pos (show r ≤ 1000 by omega)]
      exact d5 f hf)
  have hHv : ∀ (n lo hi : Nat), hi ≤ 1000 → zHv (fun f => if f ≤ 1000 then zE (xm_i h 303) (xm_i h 308) na k l f else 0) M n lo hi = zHv (zE (xm_i h 303) (xm_i h 308) na k l) M n lo hi := by
    intro n
    induction n with
    | zero => intro lo hi _; rfl
    | succ n ih =>
      intro lo hi hhi
      unfold zHv
      by_cases hlt : lo < hi
      · rw [if_pos hlt, if_pos hlt, if_pos (show (lo + hi) / 2 ≤ 1000 by omega), ih _ _ hhi, ih _ _ (by omega)]
      · rw [if_neg hlt, if_neg hlt]
  rw [hHv 12 0 en (by omega)] at hEq
  rw [show (12 : Nat) - 0 = 12 from rfl, hEq] at b1 d1 d2
  have d6 := d2.back
  rw [hgS] at d6
  refine zop_ok (h1 := h3) (h2 := xm_si h4 303 (51 + t) (xm_i h 303 (51 + t))) (v := nI r) hF ?_ ?_ ((zF.si zscr4).tr (d6.mono (fun a k => zsM_scr))) (by rw [d6.i (by unfold zsM; omega)]; exact xi_eq)
  · unfold f_L_bestFloor f_X10_bestFloor f_X2_mostEarningFloor
    rw [zq_T1 hI.t5 (by omega) ht, xe_inl, zq_U1 hu, xe_inl, zq_S1 hI.s3 (by omega) hk1 hk2, xe_inl, r1, xb_some, r3.1, m1]
    unfold f_X2_leastFloorEarning
    rw [show f_X2_leastFloorEarning_9 N ρ (nI M) (nI k) N (0 : Int32) (nI en) (0 : Int32) h2 = _ from b1, xb_some, xb_some, xe_inl]
    rfl
  · unfold f_X11_bestFloor
    rw [zq_isT1 (n := nt) (by rw [xi_sl, zrT hF]; exact hI.T7) (by omega) ht, xb_some, zs_isReq1 (nf := nf) hu (by rw [xi_sl, zrT hF]; exact hI.T2) hnf hk1 hk2, xb_some, zs_good_2, xb_some, if_neg (by decide), show (51 : Int32) + nI t = nI (51 + t) from nI_add 51 t, if_pos (zb_in (by omega) (by decide)), nI_clamp (by omega), hgS, d1]
    simp only [xl]
end Best3
