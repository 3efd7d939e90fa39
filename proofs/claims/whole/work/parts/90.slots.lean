/-! load: slots -/
def zSf (n : Int32) (h : xm_H) : Option (Int32 × xm_H) := xb (f_X11_fail n h) fun v h' => if v = 0 ∨ v = 1 then some (v, h') else none
def zSg (n : Int32) (h : xm_H) : Option (Int32 × xm_H) := xb (f_X5_fail n h) fun v h' => if v = 0 ∨ v = 1 then some (v, h') else none
def zFK (N : Nat) (e : Int32) (h : xm_H) : Option (Int32 × xm_H) := if (xm_i h 162 4) = (2 : Int32) then (xb (f_X5_isWithin (1 : Int32) e h) fun v7 h8 => (if v7 = 0 then zSg 3 h8 else zSg 5 h8)) else (xb (f_X5_takeSemicolon N h) fun v19 h20 => (if v19 = 0 ∨ v19 = 1 then (some (v19, h20)) else none))
theorem zF.si2 {A : Nat → Nat → Prop} {h h1 : xm_H} {a k : Nat} {v : Int32} (F : zF A h h1) : zF A (xm_si h a k v) (xm_si h1 a k v) := ⟨F.1, F.2.1, F.2.2.1, fun b j n => by
  rw [xi_si, xi_si]
  split
  · rfl
  · exact F.i n⟩
section Sl2
variable {N L δ nc nt nf na x s s0 e κ : Nat} {xs : zV} {W V : Nat → List Nat} {b : Nat → Nat} {h0 k0 hc hr : xm_H}
theorem zFb.sg {n : Int32} (hk : κ ≠ 4) (hP : zPT b x s e κ hc hr) : zFb (zSg n hc) (zCl N (zSf n hr)) hc hr := by
  obtain ⟨hc', hr', a1, a2, a3, a4, a5⟩ := zL_fail (n := n) hk hP
  unfold zSg zSf zCl
  rw [a1, a2, xb_some, xb_some, if_pos (Or.inl rfl), if_pos (Or.inl rfl), xb_some, if_pos rfl]
  exact ⟨hc', hr', rfl, rfl, a3, a4, a5⟩
theorem zL_fac (hN : 1000 ≤ N) : ∀ (d i g n n' s e κ : Nat) (hc hr : xm_H), i + d = 4 → 1 ≤ i → d < n → d < n' → zPT b x s e κ hc hr → zEq hc hr → s0 < s → zV0 L xs δ h0 k0 nc nt i na W V (nc + nt) hc hr → xm_i hr 307 (3 + i - 1) = nI g → 1 ≤ g → g ≤ 100 → zSR L xs δ h0 k0 b x s0 (f_X5_factors_12 N δ (zFK N) (zFK N) n (nI g) (nI i) hc) (zCl N (f_X11_slotsStatement_34 N (zSf 3) (zSf 5) n' hr)) := by
  intro d
  induction d with
  | zero =>
    intro i g n n' s e κ hc hr hd hi hn hn' hP hE hs hV hg g1 g2
    have h14 := hV.k14
    obtain ⟨m, rfl⟩ : ∃ m, n = m + 1 := ⟨n - 1, by omega⟩
    obtain ⟨m', rfl⟩ : ∃ m', n' = m' + 1 := ⟨n' - 1, by omega⟩
    have hi4 : i = 4 := by omega
    subst hi4
    have hP' := hP
    obtain ⟨f, c, r⟩ := hP
    have e2 : xm_i hr 307 2 = nI 4 := hV.2.2.2.1.1.2.2.2.2.2.2.2.1
    show zSR L xs δ h0 k0 b x s0 (f_X5_factors_12B N δ (zFK N) (zFK N) _ (nI g) (nI 4) hc) (zCl N (f_X11_slotsStatement_34B N (zSf 3) (zSf 5) _ hr))
    unfold f_X5_factors_12B f_X11_slotsStatement_34B
    rw [if_neg (show ¬ nI 4 < (4 : Int32) by decide), r.2.2.2.2.1]
    unfold zFK
    rw [c.2.2.2.1]
    by_cases hk : κ = 2
    · have hv := f.2.2.2.2.2.2.2 hk
      have c6 := c.2.2.2.2.2 hk
      have r6 := r.2.2.2.2.2.1 hk
      rw [if_pos (show nI κ = (2 : Int32) by rw [hk]; rfl), if_pos ((zRr_1 f.2.2.2.1).2.1.mpr hk), e2, show (3 : Int32) + nI 4 - 1 = nI 6 from rfl, if_pos (zb_in (by omega) (by decide)), nI_clamp (by omega), hg, r6, show (1 : Int64) = (1 : Int32).toInt64 from rfl, zs_btw, xb_some]
      unfold f_X5_isWithin
      rw [c6]
      generalize zNb b s (e - s) = v at hv c6 r6 ⊢
      by_cases hr1 : v < 1 ∨ g < v
      · rw [zbt_0 (hr1.imp (fun z => (show nI v < (1 : Int32) from nI_lt (b := 1) z (by omega))) (fun z => nI_lt z (by omega))), if_pos (show (0 : Int32) = 0 from rfl)]
        have e0 : (if nI v < (1 : Int32) then some ((0 : Int32), hc) else if nI g < nI v then some (0, hc) else some (1, hc)) = some (0, hc) := by
          by_cases h1 : v < 1
          · rw [if_pos (show nI v < (1 : Int32) from nI_lt (b := 1) h1 (by omega))]
          · rw [if_neg (show ¬ nI v < (1 : Int32) from nI_nlt (b := 1) (by omega) (by omega)), if_pos (nI_lt (by omega) (by omega))]
        rw [e0, xb_some, if_pos rfl]
        exact zSR.bad (by omega) hV (zFb.sg (by omega) hP')
      · rw [zbt_1 (show ¬ nI v < (1 : Int32) from nI_nlt (b := 1) (by omega) (by omega)) (nI_nlt (by omega) (by omega)), if_neg (show ¬ (1 : Int32) = 0 by decide), if_pos (show nI 4 = (4 : Int32) from rfl), if_neg (show ¬ nI v < (1 : Int32) from nI_nlt (b := 1) (by omega) (by omega)), if_neg (nI_nlt (by omega) (by omega)), xb_some, if_neg (by decide)]
        exact zSR.bad (by omega) hV (zFb.sg (by omega) hP')
    · rw [if_neg (show ¬ nI κ = (2 : Int32) from fun z => hk ((nI_eq (b := 2) (by have := f.2.2.2.1; omega) (by omega)).mp z)), if_neg (fun z => hk ((zRr_1 f.2.2.2.1).2.1.mp z))]
      unfold zCl
      rw [xb_some, if_neg (by decide)]
      exact zL_end hN hP' hE hs hV
  | succ d ih =>
    intro i g n n' s e κ hc hr hd hi hn hn' hP hE hs hV hg g1 g2
    have h14 := hV.k14
    have hδ := hV.1.1
    have hnh := hV.ncl
    obtain ⟨m, rfl⟩ : ∃ m, n = m + 1 := ⟨n - 1, by omega⟩
    obtain ⟨m', rfl⟩ : ∃ m', n' = m' + 1 := ⟨n' - 1, by omega⟩
    have hP' := hP
    obtain ⟨f, c, r⟩ := hP
    have e2 : xm_i hr 307 2 = nI i := hV.2.2.2.1.1.2.2.2.2.2.2.2.1
    show zSR L xs δ h0 k0 b x s0 (f_X5_factors_12B N δ (zFK N) (zFK N) (f_X5_factors_12 N δ (zFK N) (zFK N) m) (nI g) (nI i) hc) (zCl N (f_X11_slotsStatement_34B N (zSf 3) (zSf 5) (f_X11_slotsStatement_34 N (zSf 3) (zSf 5) m') hr))
    unfold f_X5_factors_12B f_X11_slotsStatement_34B
    rw [if_pos (show nI i < (4 : Int32) from nI_lt (b := 4) (by omega) (by omega)), if_pos (show (0 : Int32) < nI i from nI_lt (a := 0) (by omega) (by omega)), r.2.2.2.2.1, c.2.2.2.1]
    by_cases hk3 : κ = 3
    · rw [if_pos (show nI κ = (3 : Int32) by rw [hk3]; rfl), if_neg (fun z => absurd ((zRr_1 f.2.2.2.1).2.1.mp z) (by omega))]
      unfold zFK zCl
      rw [c.2.2.2.1, if_neg (show ¬ nI κ = (2 : Int32) by rw [hk3]; decide), xb_some, if_neg (by decide)]
      exact zL_end hN hP' hE hs hV
    rw [if_neg (show ¬ nI κ = (3 : Int32) from fun z => hk3 ((nI_eq (b := 3) (by have := f.2.2.2.1; omega) (by omega)).mp z))]
    by_cases hk : κ = 2
    · have hv := f.2.2.2.2.2.2.2 hk
      have c6 := c.2.2.2.2.2 hk
      have r6 := r.2.2.2.2.2.1 hk
      unfold f_X5_takeNumber
      rw [c.2.2.2.1, if_pos (show nI κ = (2 : Int32) by rw [hk]; rfl), if_pos ((zRr_1 f.2.2.2.1).2.1.mpr hk), e2, show (3 : Int32) + nI i = nI (3 + i) from nI_add 3 i, show nI (3 + i) - (1 : Int32) = nI (3 + i - 1) from pk_sub (a := 3 + i) (b := 1) (by omega), if_pos (zb_in (by omega) (by decide)), nI_clamp (show 3 + i - 1 < 2 ^ 31 by omega), hg, r6, show (1 : Int64) = (1 : Int32).toInt64 from rfl, zs_btw, xb_some]
      unfold f_X5_isWithin
      rw [c6]
      generalize hvg : zNb b s (e - s) = v at hv c6 r6 ⊢
      by_cases hr1 : v < 1 ∨ g < v
      · rw [zbt_0 (hr1.imp (fun z => (show nI v < (1 : Int32) from nI_lt (b := 1) z (by omega))) (fun z => nI_lt z (by omega))), if_pos (show (0 : Int32) = 0 from rfl)]
        have e0 : (if nI v < (1 : Int32) then some ((0 : Int32), hc) else if nI g < nI v then some (0, hc) else some (1, hc)) = some (0, hc) := by
          by_cases h1 : v < 1
          · rw [if_pos (show nI v < (1 : Int32) from nI_lt (b := 1) h1 (by omega))]
          · rw [if_neg (show ¬ nI v < (1 : Int32) from nI_nlt (b := 1) (by omega) (by omega)), if_pos (nI_lt (by omega) (by omega))]
        rw [e0, xb_some, if_pos rfl]
        refine zSR.bad (by omega) hV ?_
        obtain ⟨hc', hr', a1, a2, a3, a4, a5⟩ := zL_fail (n := 3) (by omega) hP'
        unfold zCl zSf
        rw [a1, a2, xb_some, xb_some, if_pos (Or.inl rfl), if_pos (Or.inl rfl), xb_some, xb_some, if_pos rfl, if_pos rfl]
        exact ⟨hc', hr', rfl, rfl, a3, a4, a5⟩
      · rw [zbt_1 (show ¬ nI v < (1 : Int32) from nI_nlt (b := 1) (by omega) (by omega)) (nI_nlt (by omega) (by omega)), if_neg (show ¬ (1 : Int32) = 0 by decide), if_neg (show ¬ nI i = (4 : Int32) from fun z => absurd ((nI_eq (b := 4) (by omega) (by omega)).mp z) (by omega)), if_neg (show ¬ nI v < (1 : Int32) from nI_nlt (b := 1) (by omega) (by omega)), if_neg (nI_nlt (a := g) (b := v) (by omega) (by omega)), xb_some, if_neg (show ¬ (1 : Int32) = 0 by decide), if_pos (zb_in (c := 3 + i) (n := 72) (by omega) (by decide))]
        simp only [xl]
        rw [c6, nI_clamp (show 3 + i < 2 ^ 31 by omega), r6, xi_nk (by omega), e2, nI_1]
        have F1 : zF (fun a k => a = 161 ∧ k = 1) hc (xm_si hc 161 1 (nI v)) := zF.si ⟨rfl, rfl⟩
        have G1 : zF (fun a _ => a = 307) hr (xm_si (xm_si hr 307 (3 + i) (nI v)) 307 2 (nI (i + 1))) := (zF.si (A := fun a (_ : Nat) => a = 307) rfl).st rfl
        have P1 := hP'.fr (R := fun _ _ => False) (M := fun _ _ => False) F1.xr G1.fm hnh (fun a k z1 z => by omega) (fun a k z1 z => by omega) (fun z => z)
        have E1 := hE.fr (R := fun _ _ => False) (M := fun _ _ => False) F1.xr G1.fm hnh (fun k z1 z => by omega) (fun k z1 z => by omega)
        obtain ⟨hc2, hr2, s2, e2', κ2, a1, a2, a3, a4, P2, E2, a7⟩ := zL_adv hN P1 E1
        have b10 : xm_i hc2 161 1 = nI v := by rw [a3.i (by omega), xi_eq]
        have Fc : zF zCA hc hc2 := (F1.mono (fun a k z => by unfold zCA; omega)).tr (a3.mono (fun a k z => Or.inr z))
        have V1 := hV.fc (i := i) (v := v) (by omega) (by omega) ⟨by omega, by omega⟩
        have V2 := V1.st (Fc.si2.si2) (a4.mono (fun a k z => by unfold zTA at z; unfold zRB; omega) (fun a k z => z))
        rw [a1, a2, xb_some, xb_some, xb_some, if_neg (show ¬ (1 : Int32) = 0 by decide), if_pos (zb_in (c := i) (n := 4) (by omega) (by decide)), nI_clamp (by omega), b10, xi_ne (by omega), xi_ne (by omega), b10]
        have F3 : zF (fun a k => a = δ + 1 ∨ (a = δ ∧ k = 3)) hc2 (xm_si (xm_si hc2 (δ + 1) i (nI v)) δ 3 (nI (i + 1))) := (zF.si (by omega)).st (by omega)
        have P3 := P2.fr (R := fun _ _ => False) (B := fun _ _ => False) (M := fun _ _ => False) F3.xr zFm.rf (by rw [a3.n]; exact hnh) (fun a k z1 z => by omega) (fun a k z1 z => z) (fun z => z)
        have E3 := E2.fr (R := fun _ _ => False) (B := fun _ _ => False) (M := fun _ _ => False) F3.xr zFm.rf (by rw [a3.n]; exact hnh) (fun k z1 z => by omega) (fun k z1 z => z)
        have hf1 := f.2.2.2.2.2.1
        refine ih (i + 1) v m m' s2 e2' κ2 _ hr2 (by omega) (by omega) (by omega) (by omega) P3 E3 ?_ V2 ?_ (by omega) (by omega)
        · have := f.1
          omega
        · rw [a4.i (fun z => by unfold zTA at z; omega), show 3 + (i + 1) - 1 = 3 + i by omega, xi_nk (by omega), xi_eq]
    · rw [if_neg (fun z => hk ((zRr_1 f.2.2.2.1).2.1.mp z))]
      refine zSR.bad (by omega) hV ?_
      obtain ⟨hc', hr', a1, a2, a3, a4, a5⟩ := zL_unex hP'
      unfold f_X5_takeNumber zCl f_X11_closed
      rw [c.2.2.2.1, if_neg (show ¬ nI κ = (2 : Int32) from fun z => hk ((nI_eq (b := 2) (by have := f.2.2.2.1; omega) (by omega)).mp z)), a1, xb_some, xb_some, if_pos (Or.inl rfl), xb_some, if_pos rfl, if_neg (by decide), r.2.2.2.2.1, if_neg (fun z => hk3 ((zRr_1 f.2.2.2.1).2.2.1.mp z)), a2, xb_some, if_pos (Or.inl rfl)]
      exact ⟨hc', hr', rfl, rfl, a3, a4, a5⟩
theorem zL_slots (hN : 1000 ≤ N) (hP : zPT b x s e κ hc hr) (hE : zEq hc hr) (hse : s < e) (hV : zV0 L xs δ h0 k0 nc nt nf na W V (nc + nt) hc hr) : zSR L xs δ h0 k0 b x s (f_X5_factors N δ hc) (zCl N (f_X11_slotsStatement N hr)) := by
  have h14 := hV.k14
  have hδ := hV.1.1
  unfold f_X5_factors f_X11_slotsStatement
  obtain ⟨hc1, hr1, s1, e1, κ1, a1, a2, a3, a4, P1, E1, a7⟩ := zL_adv hN hP hE
  have V1 := hV.st1 a3 a4
  rw [a1, a2, xb_some, xb_some]
  obtain ⟨m, hm⟩ : ∃ m, N = m + 1 := ⟨N - 1, by omega⟩
  have hcl : ∀ g, f_X5_factors_12 N δ (zFK N) (zFK N) N (100 : Int32) (0 : Int32) g = f_X5_factors_12B N δ (zFK N) (zFK N) (f_X5_factors_12 N δ (zFK N) (zFK N) m) (100 : Int32) (0 : Int32) g := fun g => by
    have : ∀ M, f_X5_factors_12 M δ (zFK M) (zFK M) (m + 1) (100 : Int32) (0 : Int32) g = f_X5_factors_12B M δ (zFK M) (zFK M) (f_X5_factors_12 M δ (zFK M) (zFK M) m) (100 : Int32) (0 : Int32) g := fun M => rfl
    have h2 := this N
    rw [← hm] at h2
    exact h2
  show zSR L xs δ h0 k0 b x s (f_X5_factors_12 N δ (zFK N) (zFK N) N (100 : Int32) (0 : Int32) hc1) (zCl N (xb (f_X11_number N (1 : Int32) (100 : Int32) hr1) fun v4 h5 => (if v4 = 0 then (some ((0 : Int32), h5)) else (xl (xm_si h5 307 3 (xm_i h5 302 17)) fun h8 => (xl (xm_si h8 307 2 (1 : Int32)) fun h10 => (f_X11_slotsStatement_34 N (zSf 3) (zSf 5) N h10))))))
  rw [hcl]
  unfold f_X5_factors_12B
  rw [if_pos (by decide), if_neg (by decide)]
  rcases zL_num' (x1 := 1) (x2 := 100) (lo := 1) (hi := 100) hN rfl rfl (by omega) (by omega) P1 E1 with hb | ⟨hc2, hr2, s2, e2, κ2, v, b1, b2, b3, b4, P2, E2, b7, b8, b9, b10, b11⟩
  · refine zSR.bad (by omega) V1 ?_
    obtain ⟨hc', hr', c1, c2, c3, c4, c5⟩ := hb
    exact ⟨hc', hr', by rw [c1, xb_some, if_pos rfl], by rw [c2, xb_some, if_pos rfl]; unfold zCl; rw [xb_some, if_pos rfl], c3, c4, c5⟩
  · have V2 := V1.st b3 b4
    have hn2 := V2.ncl
    have hs1 := P1.1.1
    rw [b1, b2, xb_some, xb_some, if_neg (show ¬ (1 : Int32) = 0 by decide), if_neg (show ¬ (1 : Int32) = 0 by decide), if_pos (by decide)]
    simp only [xl]
    rw [b10, b11, xi_ne (by omega), xi_ne (by omega), b10]
    have V3 := V2.fc (i := 0) (v := v) (by omega) (by omega) ⟨b8, b9⟩
    have F3 : zF (fun a k => a = δ + 1 ∨ (a = δ ∧ k = 3)) hc2 (xm_si (xm_si hc2 (δ + 1) 0 (nI v)) δ 3 (nI (0 + 1))) := (zF.si (by omega)).st (by omega)
    have G3 : zF (fun a _ => a = 307) hr2 (xm_si (xm_si hr2 307 (3 + 0) (nI v)) 307 2 (nI (0 + 1))) := (zF.si (A := fun a (_ : Nat) => a = 307) rfl).st rfl
    have P3 := P2.fr (R := fun _ _ => False) (M := fun _ _ => False) F3.xr G3.fm hn2 (fun a k z1 z => by omega) (fun a k z1 z => by omega) (fun z => z)
    have E3 := E2.fr (R := fun _ _ => False) (M := fun _ _ => False) F3.xr G3.fm hn2 (fun k z1 z => by omega) (fun k z1 z => by omega)
    exact zL_fac hN 3 1 v m N s2 e2 κ2 _ _ (by omega) (by omega) (by omega) (by omega) P3 E3 (by omega) V3 (by rw [xi_nk (by decide), xi_eq]) b8 b9
end Sl2
