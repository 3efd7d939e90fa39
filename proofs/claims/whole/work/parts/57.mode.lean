/-! trials: bestMode -/
def zSm (S : zV) (c i : Nat) : zV := zU (zU S (3 + 6 * c + 4) (nI i)) (3 + 6 * c + 3) 100
def zMf (T : zV) (na t nc k n m c : Nat) (S : zV) (i : Nat) : Nat := zct (fun j => decide ((zAh T na t nc k n (zSm S c i) m).2 (57 + 5 * (n + j) + 2) = nI c)) ((zAh T na t nc k n (zSm S c i) m).1 - n)
def zBm (f : Nat → Nat) : Nat → Nat × Nat
  | 0 => (0, 0)
  | i + 1 => if (zBm f i).2 < f i + 1 then (i, f i + 1) else zBm f i
def zbv (K b : Nat) : Int32 := if b = 0 then -1 else nI (K + (b - 1))
theorem zbv_lt {K b x : Nat} (hK : K ≤ 400) (hb : b ≤ 20000) (hx : x ≤ 400) : zbv K b < nI (K + x) ↔ b < x + 1 := by
  unfold zbv
  by_cases h0 : b = 0
  · rw [if_pos h0, Int32.lt_iff_toInt_lt, nI_toInt (by omega)]
    have : (-1 : Int32).toInt = -1 := rfl
    omega
  · rw [if_neg h0, Int32.lt_iff_toInt_lt, nI_toInt (by omega), nI_toInt (by omega)]
    omega
section Bm
variable {N ρ δ nc nt nf na n nv ne la nb bo no cap L t k tk m c i : Nat} {xs : zV} {S T : zV} {h g h1 h2 hc hm : xm_H} {u v x y z w : Int32}
theorem zBm_b {f : Nat → Nat} (hf : ∀ i, f i ≤ 400) : ∀ i, (zBm f i).2 ≤ 401 := by
  intro i
  induction i with
  | zero => exact Nat.zero_le _
  | succ i ih =>
    unfold zBm
    have := hf i
    split
    · dsimp only
      omega
    · exact ih
theorem zSm_ws (hWS : zWS nc nt n nv S) (hnc : nc ≤ 8) (hc : c < nc) (hi : i < 3) : zWS nc nt n nv (zSm S c i) := by
  obtain ⟨w1, w2, w3, w4, w5, w6, w7, w8⟩ := hWS
  unfold zSm
  refine ⟨w1, w2, ?_, ?_, ?_, ?_, fun t ht => ?_, fun r hr => ?_⟩
  · rw [zU_ne (by omega), zU_ne (by omega)]
    exact w3
  · rw [zU_ne (by omega), zU_ne (by omega)]
    exact w4
  · rw [zU_ne (by omega), zU_ne (by omega)]
    exact w5
  · obtain ⟨b1, b2, b3, b4, b5, b6⟩ := w6 c hc
    refine zWC_at (c := c) w6 (fun d hd w hw => by rw [zU_ne (by omega), zU_ne (by omega)]) ⟨by rw [zU_ne (by omega), zU_ne (by omega)]; exact b1, by rw [zU_ne (by omega), zU_ne (by omega)]; exact b2, ?_, by rw [zU_eq]; exact ⟨100, by omega, by omega, rfl⟩, by rw [zU_ne (by omega), zU_eq]; exact ⟨i, by omega, by omega, rfl⟩, by rw [zU_ne (by omega), zU_ne (by omega)]; exact b6⟩
    rw [zU_ne (by omega), zU_ne (by omega), zU_ne (by omega), zU_ne (by omega)]
    exact b3
  · rw [zU_ne (by omega), zU_ne (by omega)]
    exact w7 t ht
  · rw [zU_ne (by omega), zU_ne (by omega), zU_ne (by omega), zU_ne (by omega), zU_ne (by omega), zU_ne (by omega), zU_ne (by omega), zU_ne (by omega), zU_ne (by omega), zU_ne (by omega)]
    exact w8 r hr
theorem zSm_hi (hc : c < 8) {r : Nat} (hr : 51 ≤ r ∨ r < 3) : zSm S c i r = S r := by
  unfold zSm
  rw [zU_ne (by omega), zU_ne (by omega)]
/-- one mode tried by the class -/
theorem zc_mode (hN : 1000 ≤ N) (hR : zRA ρ nc nt nf na n S T g) (hp : zPz 201 g) (hWT : zWT nc nt nf na T) (hWS : zWS nc nt n nv S) (ht : t < nt) (hk : k ≤ nf) (htk : S 0 = nI tk) (htb : tk ≤ 9999) (hn : n ≤ 160) (hm : m ≤ 60) (hc : c < nc) (hi : i < 3) : ∃ g1 g2 g3 g4, f_X7_copy 220 201 g = some ((), g1) ∧ f_X7_changeMode (nI c) (nI i) g1 = some ((), g2) ∧ f_X10_tryAhead N ρ (nI t) (nI k) (nI m) g2 = some ((), g3) ∧ f_X4_countOf N (nI c) (xm_i g3 220 2) (xm_i g3 201 2) g3 = some (nI (zMf T na t nc k n m c S i), g3) ∧ f_X7_copy 201 220 g3 = some ((), g4) ∧ zF (zAn n nv) g g4 ∧ zRS 201 nc nt S T g4 ∧ zPz 201 g4 := by
  have hnc := hWT.1
  have hnt := hWT.2.1
  obtain ⟨g1, r1, r2, r3, r4, r5, r6⟩ := zc_bef hnc hnt hR hp
  have F2 : zF (fun a _ => a = 205 ∨ a = 207) g1 (xm_si (xm_si g1 205 c (nI i)) 207 c 100) := (zF.si (by omega)).st (by omega)
  have hR2 : zRA ρ nc nt nf na n (zSm S c i) T (xm_si (xm_si g1 205 c (nI i)) 207 c 100) := ⟨hR.1, zRT.fr hR.1 F2 (fun a k z w => by omega) hnc r3.2.1, zRS_s3 (by omega) (zRS_s4 (by omega) r3.2.2.1), zRI_cg (fun r hr => zSm_hi (by omega) (by omega)) (zRI.fr F2 (fun a k z1 z2 w => by omega) r3.2.2.2)⟩
  have hws := zSm_ws (i := i) hWS hnc hc hi
  have htk2 : zSm S c i 0 = nI tk := (zSm_hi (by omega) (by omega)).trans htk
  obtain ⟨a1, a2, a3, a4, a5, a6⟩ := zAh_ok hWT hws ht hk htk2 htb m (by omega)
  obtain ⟨g3, t1, t2, t3⟩ := zc_try (N := N) (m := m) hN hR2 hWT hws ht hk htk2 htb hn hm
  have F3 : zF (fun a q => zsC a q ∨ zAs n a q ∨ (201 ≤ a ∧ a ≤ 208)) g1 g3 := (F2.mono (fun a q z => Or.inr (Or.inr (by omega)))).tr (t2.mono (fun a q z => z.imp id (fun z => z.imp id (fun z => by omega))))
  obtain ⟨g4, c1, c2, c3, c4⟩ := zc_aft hnc hnt F3 r4 r5
  have q1 : xm_i g3 220 2 = nI n := by
    rw [F3.i (by unfold zsC zAs; omega)]
    exact r4.2.2.1.trans hWS.2.2.2.1
  have q2 : xm_i g3 201 2 = nI (zAh T na t nc k n (zSm S c i) m).1 := t3.2.2.1.2.2.1.trans a1.2.2.2.1
  refine ⟨g1, _, g3, g4, r1, ?_, t1, ?_, c1, ?_, c3, c4⟩
  · unfold f_X7_changeMode
    rw [if_pos (zb_in (by omega) (by decide)), nI_clamp (by omega)]
    rfl
  · rw [q1, q2, zc_countOf hN a3 (by omega)]
    unfold zMf
    rw [zct_congr (q := fun j => decide ((zAh T na t nc k n (zSm S c i) m).2 (57 + 5 * (n + j) + 2) = nI c)) (fun j hj => by rw [(t3.2.2.2 (n + j) (by omega)).2.2.1])]
  · refine (r2.mono (fun a k z => Or.inl (Or.inl (by omega)))).tr ((F3.mono (fun a k z => ?_)).tr (c2.mono (fun a k z => Or.inr (Or.inl z))))
    rcases z with z | z | z
    · exact zsCs_n (Or.inl z)
    · exact zsCs_n (Or.inr z)
    · exact Or.inr (Or.inl z)
/-- one mode tried by the reference -/
theorem zs_mode (hN : 20000 ≤ N) (eS : xm_i g 303 = S) (eT : xm_i g 308 = T) (k3 : xm_k g 303 = (100, 2217)) (k4 : xm_k g 304 = (100, 2217)) (e4 : ∀ j, j < 2217 → xm_i g 304 j = S j) (hWT : zWT nc nt nf na T) (hWS : zWS nc nt n nv S) (ht : t < nt) (hk : k ≤ nf) (htk : S 0 = nI tk) (htb : tk ≤ 9999) (hn : n ≤ 160) (hm : m ≤ 60) (hc : c < nc) (hi : i < 3) : ∃ g1 g2 g3 g4 w, f_X11_set (nI c) 4 (nI i) g = some ((), g1) ∧ f_X11_set (nI c) 3 100 g1 = some ((), g2) ∧ f_X11_goAhead N (nI t) (nI k) (nI m) g2 = some (w, g3) ∧ f_X11_impressionsOf N (nI c) g3 = some (nI (zct (fun j => decide (S (57 + 5 * j + 2) = nI c)) n + zMf T na t nc k n m c S i), g3) ∧ f_X11_copy N 304 303 g3 = some ((), g4) ∧ zF (fun a q => zsM a q ∨ (a = 303 ∧ q < 2217)) g g4 ∧ xm_i g4 303 = S := by
  have hnc := hWT.1
  have hws := zSm_ws (i := i) hWS hnc hc hi
  have htk2 : zSm S c i 0 = nI tk := (zSm_hi (by omega) (by omega)).trans htk
  obtain ⟨a1, a2, a3, a4, a5, a6⟩ := zAh_ok hWT hws ht hk htk2 htb m (by omega)
  have F2 : zF (fun a q => zsM a q ∨ (a = 303 ∧ q < 2217)) g (xm_si (xm_si g 303 (3 + 6 * c + 4) (nI i)) 303 (3 + 6 * c + 3) 100) := (zF.si (Or.inr ⟨rfl, by omega⟩)).st (Or.inr ⟨rfl, by omega⟩)
  obtain ⟨g3, u1, u2, u3⟩ := zs_ahead (N := N) (h := xm_si (xm_si g 303 (3 + 6 * c + 4) (nI i)) 303 (3 + 6 * c + 3) 100) (S := zSm S c i) (T := T) (m := m) (by omega) (by rw [zU_si, zU_si, eS]; rfl) (by rw [zU_ot (by decide), zU_ot (by decide), eT]) hWT hws ht hk htk2 htb hn hm
  have F3 := F2.tr u2
  obtain ⟨g4, w1, w2, w3⟩ := zs_copy (N := N) (a := 304) (b := 303) (h := g3) hN ((F3.k 304).trans k4) ((F3.k 303).trans k3) (by omega) (by omega)
  refine ⟨_, _, g3, g4, _, zs_set4 (by omega), zs_set3 (by omega), u1, ?_, w1, F3.tr (w2.mono (fun a k z => Or.inr z)), ?_⟩
  · rw [zs_impressionsOf (n := (zAh T na t nc k n (zSm S c i) m).1) (by omega) (by omega) (by rw [u3]; exact a1.2.2.2.1), u3]
    have e9 : (zAh T na t nc k n (zSm S c i) m).1 = n + ((zAh T na t nc k n (zSm S c i) m).1 - n) := by omega
    have e8 : zct (fun j => decide ((zAh T na t nc k n (zSm S c i) m).2 (57 + 5 * j + 2) = nI c)) (zAh T na t nc k n (zSm S c i) m).1 = zct (fun j => decide (S (57 + 5 * j + 2) = nI c)) n + zMf T na t nc k n m c S i := by
      rw [e9, zct_add]
      congr 1
      exact zct_congr (fun j hj => by rw [a5 _ (by omega) (by omega), zSm_hi (by omega) (by omega)])
    rw [e8]
  · funext j
    by_cases hj : j < 2217
    · rw [w3 j hj, F3.i (by unfold zsM; omega), e4 j hj]
    · rw [w2.i (by omega), F3.i (by unfold zsM; omega), eS]
theorem zMf_b (a4 : (zAh T na t nc k n (zSm S c i) m).1 ≤ 400) : zMf T na t nc k n m c S i ≤ 400 := by
  unfold zMf
  have := zct_le (fun j => decide ((zAh T na t nc k n (zSm S c i) m).2 (57 + 5 * (n + j) + 2) = nI c)) ((zAh T na t nc k n (zSm S c i) m).1 - n)
  omega
theorem zBm_b3 {f : Nat → Nat} (hf : ∀ i, i < 3 → f i ≤ 400) : ∀ i, i ≤ 3 → (zBm f i).2 ≤ 401 := by
  intro i
  induction i with
  | zero => intro _; exact Nat.zero_le _
  | succ i ih =>
    intro h3
    unfold zBm
    have := hf i (by omega)
    split
    · dsimp only
      omega
    · exact ih (by omega)
theorem zo_bestMode (hN : 20000 ≤ N) (hI : zInv ρ δ nc nt nf na n nv ne la nb bo no cap L xs h) : zOp (f_L_bestMode N ρ w x y z h) (f_X11_bestMode N w x y z) (zPo L xs h) := by
  have hn := hI.n
  have hnc := hI.wt.1
  have hnt := hI.wt.2.1
  have hnf := hI.wt.2.2.2.1
  have hn160 := hI.2.2.2.1.2.2.2.1.2.2.1
  obtain ⟨tk, tk1, tk2, tk3⟩ := hI.2.2.2.1.2.2.2.1.2.2.2.1
  have hpz : zPz 201 h := hI.2.2.2.1.2.2.2.1.2.2.2.2.2.1
  rcases zix w (n := nc) (by omega) with hw | ⟨c, hc8, rfl⟩
  · refine (zop_bad (h := h) (k := 1) (b := 0) zks14 (by decide) ?_ ?_).mono (fun g hg => hg.po hI)
    · unfold f_L_bestMode f_X10_bestMode
      rw [zq_C0 hI.c7 hw, xe_inr, xe_inr]
      rfl
    · unfold f_X11_bestMode
      obtain ⟨b, hb⟩ := zs_isAhB y z (xm_new h (14, 0))
      rw [zq_isC0 (n := nc) (by rw [xi_new (by omega)]; exact hI.T14) (by omega) hw, xb_some, if_pos rfl, hb, xb_some, zs_good_0, xb_some]
      rfl
  rcases zix x (n := nt) (by omega) with hx | ⟨t, ht, rfl⟩
  · refine (zop_bad (h := h) (k := 1) (b := 0) zks14 (by decide) ?_ ?_).mono (fun g hg => hg.po hI)
    · unfold f_L_bestMode f_X10_bestMode
      rw [zq_C1 hI.c7 (by omega) hc8, xe_inl, zq_T0 hI.t5 hx, xe_inr, xe_inr]
      rfl
    · unfold f_X11_bestMode
      obtain ⟨b, hb⟩ := zs_isAhB y z (xm_new h (14, 0))
      rw [zq_isC1 (n := nc) (by rw [xi_new (by omega)]; exact hI.T14) (by omega) hc8, xb_some, if_neg (by decide), zq_isT0 (n := nt) (by rw [xi_new (by omega)]; exact hI.T7) (by omega) hx, xb_some, if_pos rfl, hb, xb_some, zs_good_0, xb_some]
      rfl
  rcases zq_ix1 y (n := nf) (by omega) with hy | ⟨k, hk1, hk2, rfl⟩
  · refine (zop_bad (h := h) (k := 2) (b := 0) zks15 (by decide) ?_ ?_).mono (fun g hg => hg.po hI)
    · unfold f_L_bestMode f_X10_bestMode
      rw [zq_C1 hI.c7 (by omega) hc8, xe_inl, zq_T1 hI.t5 (by omega) ht, xe_inl, zq_S0 hI.s3 hy, xe_inr, xe_inr]
      rfl
    · unfold f_X11_bestMode
      rw [zq_isC1 (n := nc) (by rw [xi_new (by omega)]; exact hI.T14) (by omega) hc8, xb_some, if_neg (by decide), zq_isT1 (n := nt) (by rw [xi_new (by omega)]; exact hI.T7) (by omega) ht, xb_some, if_neg (by decide), zs_isAhS (by rw [xi_new (by omega)]; exact hI.T2) hy, xb_some, zs_good_1, xb_some]
      rfl
  rcases zq_ix1 z (n := 60) (by omega) with hz | ⟨m, hm1, hm2, rfl⟩
  · have hz' : z < 1 ∨ 60 < z := hz
    refine (zop_bad (h := h) (k := 2) (b := 0) zks15 (by decide) ?_ ?_).mono (fun g hg => hg.po hI)
    · unfold f_L_bestMode f_X10_bestMode
      rw [zq_C1 hI.c7 (by omega) hc8, xe_inl, zq_T1 hI.t5 (by omega) ht, xe_inl, zq_S1 hI.s3 (by omega) hk1 hk2, xe_inl, zq_R0 hz', xe_inr, xe_inr]
      rfl
    · unfold f_X11_bestMode
      rw [zq_isC1 (n := nc) (by rw [xi_new (by omega)]; exact hI.T14) (by omega) hc8, xb_some, if_neg (by decide), zq_isT1 (n := nt) (by rw [xi_new (by omega)]; exact hI.T7) (by omega) ht, xb_some, if_neg (by decide), zs_isAh0 (by rw [xi_new (by omega)]; exact hI.T2) hnf hk1 hk2 hz', xb_some, zs_good_1, xb_some]
      rfl
  have hfb : ∀ i, i < 3 → zMf (xm_i h 308) na t nc k n m c (xm_i h 303) i ≤ 400 := fun i hi => zMf_b (by
    have := (zAh_ok hI.wt (zSm_ws (i := i) hI.ws hnc hc8 hi) ht hk2 ((zSm_hi (by omega) (by omega)).trans tk3) (by omega) m (by omega)).2.2.2.1
    omega)
  have hbb := zBm_b3 hfb
  have hK0 := zct_le (fun j => decide (xm_i h 303 (57 + 5 * j + 2) = nI c)) n
  -- the class
  obtain ⟨q1, ⟨c5, c6, c7, hc⟩, ⟨e5, e6, e7, e8, e9, e10⟩, hE⟩ := zlpO (N := N) (F := fun n s => f_X10_bestMode_32 N ρ (nI c) (nI t) (nI k) (nI m) n s.1 s.2.1 s.2.2.1 s.2.2.2) (I := fun i s => s.1 = nI (zBm (zMf (xm_i h 308) na t nc k n m c (xm_i h 303)) i).1 ∧ s.2.1 = zbv 0 (zBm (zMf (xm_i h 308) na t nc k n m c (xm_i h 303)) i).2 ∧ s.2.2.1 = nI i ∧ zF (zAn n nv) h s.2.2.2 ∧ zRS 201 nc nt (xm_i h 303) (xm_i h 308) s.2.2.2 ∧ zPz 201 s.2.2.2) (L := 3) (s := (0, -1, 0, h)) (by omega) ⟨rfl, rfl, rfl, zF.rf, hI.ra.2.2.1, hpz⟩ (by
    rintro m2 i ⟨c5, c6, c7, g⟩ hi ⟨e5, e6, e7, e8, e9, e10⟩
    dsimp only at e5 e6 e7 e8 e9 e10 ⊢
    subst e5
    subst e6
    subst e7
    have hRA : zRA ρ nc nt nf na n (xm_i h 303) (xm_i h 308) g := by
      refine ⟨hI.ra.1, zRT.fr hI.ra.1 e8 (fun a k z w => by unfold zAn zscr at w; omega) hnc hI.ra.2.1, e9, fun r hr => ?_⟩
      obtain ⟨b1, b2, b3, b4, b5⟩ := hI.ra.2.2.2 r hr
      exact ⟨(e8.i (by unfold zAn zscr; omega)).trans b1, (e8.i (by unfold zAn zscr; omega)).trans b2, (e8.i (by unfold zAn zscr; omega)).trans b3, (e8.i (by unfold zAn zscr; omega)).trans b4, (e8.i (by unfold zAn zscr; omega)).trans b5⟩
    obtain ⟨g1, g2, g3, g4, r1, r2, r3, r4, r5, r6, r7, r8⟩ := zc_mode (N := N) (i := i) (by omega) hRA e10 hI.wt hI.ws ht hk2 tk3 (by omega) hn160 hm2 hc8 hi
    have hlt := zbv_lt (K := 0) (b := (zBm (zMf (xm_i h 308) na t nc k n m c (xm_i h 303)) i).2) (x := zMf (xm_i h 308) na t nc k n m c (xm_i h 303) i) (by omega) (by have := hbb i (by omega); omega) (hfb i hi)
    rw [Nat.zero_add] at hlt
    have hB : f_X10_bestMode_32B N ρ (nI c) (nI t) (nI k) (nI m) (f_X10_bestMode_32 N ρ (nI c) (nI t) (nI k) (nI m) m2) (nI (zBm (zMf (xm_i h 308) na t nc k n m c (xm_i h 303)) i).1) (zbv 0 (zBm (zMf (xm_i h 308) na t nc k n m c (xm_i h 303)) i).2) (nI i) g = f_X10_bestMode_32 N ρ (nI c) (nI t) (nI k) (nI m) m2 (nI (zBm (zMf (xm_i h 308) na t nc k n m c (xm_i h 303)) (i + 1)).1) (zbv 0 (zBm (zMf (xm_i h 308) na t nc k n m c (xm_i h 303)) (i + 1)).2) (nI (i + 1)) g4 := by
      unfold f_X10_bestMode_32B
      rw [if_neg (show ¬ (2 : Int32) < nI i from nI_nlt (a := 2) (by omega) (by omega)), r1, xb_some, r2, xb_some, r3, xb_some, r4, xb_some, r5, xb_some, nI_1]
      conv => rhs; unfold zBm
      by_cases hb : (zBm (zMf (xm_i h 308) na t nc k n m c (xm_i h 303)) i).2 < zMf (xm_i h 308) na t nc k n m c (xm_i h 303) i + 1
      · rw [if_pos (hlt.mpr hb), if_pos hb]
        unfold zbv
        rw [if_neg (by omega), Nat.zero_add, Nat.add_sub_cancel]
      · rw [if_neg (fun z => hb (hlt.mp z)), if_neg hb]
    exact ⟨(_, _, _, g4), ⟨rfl, rfl, rfl, e8.tr r6, r7, r8⟩, hB⟩)
  dsimp only at e5 e6 e7 e8 e9 e10
  subst e5
  subst e6
  subst e7
  generalize hV : nI (zBm (zMf (xm_i h 308) na t nc k n m c (xm_i h 303)) 3).1 = V at *
  have hend : f_X10_bestMode_32 N ρ (nI c) (nI t) (nI k) (nI m) N 0 (-1) 0 h = some (.inl V, hc) := by
    refine hE.trans ?_
    show f_X10_bestMode_32B N ρ (nI c) (nI t) (nI k) (nI m) (f_X10_bestMode_32 N ρ (nI c) (nI t) (nI k) (nI m) q1) V _ (nI 3) hc = _
    unfold f_X10_bestMode_32B
    rw [if_pos (show (2 : Int32) < nI 3 by decide)]
  have eS : xm_i hc 303 = xm_i h 303 := e8.row (fun k z => by unfold zAn zscr at z; omega)
  have eT : xm_i hc 308 = xm_i h 308 := e8.row (fun k z => by unfold zAn zscr at z; omega)
  have k3 : xm_k hc 303 = (100, 2217) := (e8.k 303).trans (xs_k hI.1 rfl rfl)
  have k4 : xm_k hc 304 = (100, 2217) := (e8.k 304).trans (xs_k hI.1 rfl rfl)
  obtain ⟨g1, s1, s2, s3⟩ := zs_copy (N := N) (a := 303) (b := 304) (h := xm_si (xm_sl hc 316 0 (Int32.toInt64 V)) 302 4 0) hN k3 k4 (by omega) (by omega)
  -- the reference
  obtain ⟨q2, ⟨d5, d6, d7, hm⟩, ⟨f5, f6, f7, f8, f9⟩, hE2⟩ := zlpO (N := N) (F := fun n s => f_X11_bestMode_57 N (nI c) (nI t) (nI k) (nI m) n s.1 s.2.1 s.2.2.1 s.2.2.2) (I := fun i s => s.1 = nI (zBm (zMf (xm_i h 308) na t nc k n m c (xm_i h 303)) i).1 ∧ s.2.1 = zbv (zct (fun j => decide (xm_i h 303 (57 + 5 * j + 2) = nI c)) n) (zBm (zMf (xm_i h 308) na t nc k n m c (xm_i h 303)) i).2 ∧ s.2.2.1 = nI i ∧ zF (fun a q => zsM a q ∨ (a = 303 ∧ q < 2217)) g1 s.2.2.2 ∧ xm_i s.2.2.2 303 = xm_i h 303) (L := 3) (s := (0, -1, 0, g1)) (by omega) ⟨rfl, rfl, rfl, zF.rf, by rw [s2.row (fun k z => by omega), zU_ot (by decide), xi_sl, eS]⟩ (by
    rintro m2 i ⟨c5, c6, c7, g⟩ hi ⟨e5, e6, e7, e8, e9⟩
    dsimp only at e5 e6 e7 e8 e9 ⊢
    subst e5
    subst e6
    subst e7
    obtain ⟨g2, g3, g4, g5, w, r1, r2, r3, r4, r5, r6, r7⟩ := zs_mode (N := N) (g := g) (i := i) (S := xm_i h 303) (T := xm_i h 308) hN e9 (by rw [e8.row (fun k z => by unfold zsM at z; omega), s2.row (fun k z => by omega), zU_ot (by decide), xi_sl, eT]) ((e8.k 303).trans ((s2.k 303).trans k3)) ((e8.k 304).trans ((s2.k 304).trans k4)) (fun j hj => by rw [e8.i (by unfold zsM; omega), s3 j hj, xi_ne (by decide), xi_sl, eS]) hI.wt hI.ws ht hk2 tk3 (by omega) hn160 hm2 hc8 hi
    have hlt := zbv_lt (K := zct (fun j => decide (xm_i h 303 (57 + 5 * j + 2) = nI c)) n) (b := (zBm (zMf (xm_i h 308) na t nc k n m c (xm_i h 303)) i).2) (x := zMf (xm_i h 308) na t nc k n m c (xm_i h 303) i) (by omega) (by have := hbb i (by omega); omega) (hfb i hi)
    have hB : f_X11_bestMode_57B N (nI c) (nI t) (nI k) (nI m) (f_X11_bestMode_57 N (nI c) (nI t) (nI k) (nI m) m2) (nI (zBm (zMf (xm_i h 308) na t nc k n m c (xm_i h 303)) i).1) (zbv (zct (fun j => decide (xm_i h 303 (57 + 5 * j + 2) = nI c)) n) (zBm (zMf (xm_i h 308) na t nc k n m c (xm_i h 303)) i).2) (nI i) g = f_X11_bestMode_57 N (nI c) (nI t) (nI k) (nI m) m2 (nI (zBm (zMf (xm_i h 308) na t nc k n m c (xm_i h 303)) (i + 1)).1) (zbv (zct (fun j => decide (xm_i h 303 (57 + 5 * j + 2) = nI c)) n) (zBm (zMf (xm_i h 308) na t nc k n m c (xm_i h 303)) (i + 1)).2) (nI (i + 1)) g5 := by
      unfold f_X11_bestMode_57B
      rw [if_neg (show ¬ (2 : Int32) < nI i from nI_nlt (a := 2) (by omega) (by omega)), r1, xb_some, r2, xb_some, r3, xb_some, r4, xb_some, r5, xb_some, nI_1]
      conv => rhs; unfold zBm
      by_cases hb : (zBm (zMf (xm_i h 308) na t nc k n m c (xm_i h 303)) i).2 < zMf (xm_i h 308) na t nc k n m c (xm_i h 303) i + 1
      · rw [if_pos (hlt.mpr hb), if_pos hb]
        conv => rhs; unfold zbv
        rw [if_neg (by omega), Nat.add_sub_cancel]
      · rw [if_neg (fun z => hb (hlt.mp z)), if_neg hb]
    exact ⟨(_, _, _, g5), ⟨rfl, rfl, rfl, e8.tr r6, r7⟩, hB⟩)
  dsimp only at f5 f6 f7 f8 f9
  subst f6
  subst f7
  rw [hV] at f5
  subst f5
  have hend2 : f_X11_bestMode_57 N (nI c) (nI t) (nI k) (nI m) N 0 (-1) 0 g1 = some (d5, hm) := by
    refine hE2.trans ?_
    show f_X11_bestMode_57B N (nI c) (nI t) (nI k) (nI m) (f_X11_bestMode_57 N (nI c) (nI t) (nI k) (nI m) q2) d5 _ (nI 3) hm = _
    unfold f_X11_bestMode_57B
    rw [if_pos (show (2 : Int32) < nI 3 by decide)]
  refine ztr (v := d5) hI e8 e9 e10 ?_ (hm := hm) ?_ ?_ ?_ f9
  · unfold f_L_bestMode f_X10_bestMode
    rw [zq_C1 hI.c7 (by omega) hc8, xe_inl, zq_T1 hI.t5 (by omega) ht, xe_inl, zq_S1 hI.s3 (by omega) hk1 hk2, xe_inl, zpR hm1 hm2, xe_inl, hend, xe_inl]
    rfl
  · unfold f_X11_bestMode
    rw [zq_isC1 (n := nc) (by rw [xi_sl, eT]; exact hI.T14) (by omega) hc8, xb_some, if_neg (by decide), zq_isT1 (n := nt) (by rw [xi_sl, eT]; exact hI.T7) (by omega) ht, xb_some, if_neg (by decide), zs_isAh1 (by rw [xi_sl, eT]; exact hI.T2) hnf hk1 hk2 hm1 hm2, xb_some, zs_good_2, xb_some, if_neg (by decide), s1, xb_some, hend2]
  · refine (zF.si (Or.inl zscr4)).tr ((s2.mono (fun a k z => Or.inl ?_)).tr (f8.mono (fun a k z => zsMs_m z)))
    unfold zscr
    omega
  · rw [f8.i (by unfold zsM; omega), s2.i (by omega), xi_eq]
end Bm
