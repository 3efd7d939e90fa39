/-! load: steps of both sides -/
def zPT (b : Nat → Nat) (x s e κ : Nat) (hc hr : xm_H) : Prop := zTf b x s e κ ∧ zTc b x s e κ hc ∧ zTr b x s e κ hr
def zEq (hc hr : xm_H) : Prop := xm_i hc 161 4 = xm_i hr 302 14 ∧ xm_i hc 161 5 = xm_i hr 302 15
def zCA (a k : Nat) : Prop := a = 161 ∨ (a = 162 ∧ 3 ≤ k)
def zRB (a k : Nat) : Prop := a = 302 ∧ ((10 ≤ k ∧ k ≤ 17) ∨ k = 23)
/-- both fail alike -/
def zFb (rc rr : Option (Int32 × xm_H)) (hc hr : xm_H) : Prop := ∃ hc' hr', rc = some (0, hc') ∧ rr = some (0, hr') ∧ zF zCA hc hc' ∧ zFm zRB zTM hr hr' ∧ zEq hc' hr'
section St
variable {N L δ nc nt nf na k x s e κ lo hi j : Nat} {xs : zV} {W V : Nat → List Nat} {b : Nat → Nat} {h0 k0 hc hr hc' hr' : xm_H}
theorem zL_adv (hN : 1000 ≤ N) (hP : zPT b x s e κ hc hr) (hE : zEq hc hr) : ∃ hc' hr' s' e' κ', f_X9_advance N hc = some ((), hc') ∧ f_X11_advance N hr = some (1, hr') ∧ zF (fun a k => a = 162 ∧ 3 ≤ k) hc hc' ∧ zFm zTA zTM hr hr' ∧ zPT b x s' e' κ' hc' hr' ∧ zEq hc' hr' ∧ e ≤ s' := by
  obtain ⟨f, c, r⟩ := hP
  obtain ⟨s', e', κ', hT⟩ := zTk_ex (b := b) (x := x) (p := e) f.2.1
  obtain ⟨hc', c1, c2, c3⟩ := zc_advance hN f.2.2.1 c.1 c.2.1 c.2.2.1 hT
  obtain ⟨hr', r1, r2, r3⟩ := zs_advance hN f.2.2.1 r.1 r.2.1 r.2.2.2.1 hT
  obtain ⟨f', hp⟩ := zTk_f f.2.2.1 hT
  refine ⟨hc', hr', s', e', κ', c1, r1, c2, r2, ⟨f', c3, r3⟩, ⟨?_, ?_⟩, hp⟩
  · rw [c2.i (by omega), r2.i (fun z => by unfold zTA at z; omega)]
    exact hE.1
  · rw [c2.i (by omega), r2.i (fun z => by unfold zTA at z; omega)]
    exact hE.2
theorem zL_fail {n : Int32} (hk : κ ≠ 4) (hP : zPT b x s e κ hc hr) : zFb (f_X5_fail n hc) (f_X11_fail n hr) hc hr := by
  obtain ⟨f, c, r⟩ := hP
  unfold f_X5_fail f_X11_fail
  simp only [xl]
  rw [r.2.2.2.2.1, if_neg (fun z => hk ((zRr_1 f.2.2.2.1).2.2.2.1.mp z)), xi_ne (by decide), c.2.2.2.2.1, xi_nk (by decide), r.2.2.1]
  refine ⟨_, _, rfl, rfl, (zF.si (Or.inl rfl)).st (Or.inl rfl), ((zF.si (by unfold zRB; omega)).st (by unfold zRB; omega)).fm, ?_, ?_⟩
  · rw [xi_nk (by decide), xi_eq, xi_nk (by decide), xi_eq]
  · rw [xi_eq, xi_eq]
theorem zFb.w {rc rr : Option (Int32 × xm_H)} (h : zFb rc rr hc hr) : ∃ hc' hr', rc = some (0, hc') ∧ rr = some (0, hr') ∧ zF zCA hc hc' ∧ zFm zRB zTM hr hr' ∧ zEq hc' hr' := h
theorem zL_unex (hP : zPT b x s e κ hc hr) : zFb (f_X5_unexpected hc) (f_X11_fail 2 hr) hc hr := by
  have hP' := hP
  obtain ⟨f, c, r⟩ := hP
  unfold f_X5_unexpected
  rw [c.2.2.2.1]
  by_cases hk : κ = 4
  · rw [if_pos (show nI κ = (4 : Int32) by rw [hk]; rfl)]
    unfold f_X5_fail f_X11_fail
    simp only [xl]
    rw [r.2.2.2.2.1, if_pos ((zRr_1 f.2.2.2.1).2.2.2.1.mpr hk), xi_ne (by decide), c.2.2.2.2.1, xi_nk (by decide), r.2.2.1, xb_some, if_pos (Or.inl rfl)]
    refine ⟨_, _, rfl, rfl, (zF.si (Or.inl rfl)).st (Or.inl rfl), ((zF.si (by unfold zRB; omega)).st (by unfold zRB; omega)).fm, ?_, ?_⟩
    · rw [xi_nk (by decide), xi_eq, xi_nk (by decide), xi_eq]
    · rw [xi_eq, xi_eq]
  · rw [if_neg (show ¬ nI κ = (4 : Int32) from fun z => hk ((nI_eq (b := 4) (by have := f.2.2.2.1; omega) (by omega)).mp z))]
    obtain ⟨hc', hr', a1, a2, a3, a4, a5⟩ := zL_fail (n := 2) hk hP'
    rw [a1, xb_some, if_pos (Or.inl rfl)]
    exact ⟨hc', hr', rfl, a2, a3, a4, a5⟩
/-- a number -/
theorem zL_num (hN : 1000 ≤ N) (hlo : lo ≤ 9999) (hhi : hi ≤ 9999) (hP : zPT b x s e κ hc hr) (hE : zEq hc hr) : zFb (f_X5_takeNumber N (nI lo) (nI hi) hc) (f_X11_number N (nI lo) (nI hi) hr) hc hr ∨ ∃ hc' hr' s' e' κ' v, f_X5_takeNumber N (nI lo) (nI hi) hc = some (1, hc') ∧ f_X11_number N (nI lo) (nI hi) hr = some (1, hr') ∧ zF zCA hc hc' ∧ zFm zRB zTM hr hr' ∧ zPT b x s' e' κ' hc' hr' ∧ zEq hc' hr' ∧ e ≤ s' ∧ lo ≤ v ∧ v ≤ hi ∧ xm_i hc' 161 1 = nI v ∧ xm_i hr' 302 17 = nI v := by
  have hP' := hP
  obtain ⟨f, c, r⟩ := hP
  unfold f_X5_takeNumber f_X11_number
  rw [c.2.2.2.1, r.2.2.2.2.1]
  by_cases hk : κ = 2
  · rw [if_pos (show nI κ = (2 : Int32) by rw [hk]; rfl), if_pos ((zRr_1 f.2.2.2.1).2.1.mpr hk), zs_btw, xb_some]
    unfold f_X5_isWithin
    have hv := f.2.2.2.2.2.2.2 hk
    have c6 := c.2.2.2.2.2 hk
    have r6 := r.2.2.2.2.2.1 hk
    rw [c6, r6]
    generalize zNb b s (e - s) = v at hv c6 r6 ⊢
    by_cases hr1 : v < lo ∨ hi < v
    · left
      rw [zbt_0 (hr1.imp (fun z => nI_lt z (by omega)) (fun z => nI_lt z (by omega))), if_pos rfl]
      have e0 : (if nI v < nI lo then some ((0 : Int32), hc) else if nI hi < nI v then some (0, hc) else some (1, hc)) = some (0, hc) := by
        by_cases h1 : v < lo
        · rw [if_pos (nI_lt h1 (by omega))]
        · rw [if_neg (nI_nlt (by omega) (by omega)), if_pos (nI_lt (by omega) (by omega))]
      rw [e0, xb_some, if_pos rfl]
      obtain ⟨hc', hr', a1, a2, a3, a4, a5⟩ := zL_fail (n := 3) (by omega) hP'
      rw [a1, a2, xb_some, xb_some, if_pos (Or.inl rfl), if_pos (Or.inl rfl)]
      exact ⟨hc', hr', rfl, rfl, a3, a4, a5⟩
    · right
      rw [zbt_1 (nI_nlt (by omega) (by omega)) (nI_nlt (by omega) (by omega)), if_neg (nI_nlt (a := v) (b := lo) (by omega) (by omega)), if_neg (nI_nlt (a := hi) (b := v) (by omega) (by omega)), xb_some, if_neg (show ¬ (1 : Int32) = 0 by decide), if_neg (show ¬ (1 : Int32) = 0 by decide)]
      simp only [xl]
      rw [c6]
      have hP2 : zPT b x s e κ (xm_si hc 161 1 (nI v)) (xm_si hr 302 17 (nI v)) := by
        obtain ⟨c1, c2, c3, c4, c5, c6⟩ := c
        obtain ⟨r1, r2, r3, r4, r5, r6, r7⟩ := r
        exact ⟨f, ⟨fun i hi => by rw [xi_ne (by decide)]; exact c1 i hi, by rw [xi_ne (by decide)]; exact c2, by rw [xi_ne (by decide)]; exact c3, by rw [xi_ne (by decide)]; exact c4, by rw [xi_ne (by decide)]; exact c5, fun z => by rw [xi_ne (by decide)]; exact c6 z⟩, fun i hi => by rw [xi_ne (by decide)]; exact r1 i hi, by rw [xi_nk (by decide)]; exact r2, by rw [xi_nk (by decide)]; exact r3, by rw [xi_nk (by decide)]; exact r4, by rw [xi_nk (by decide)]; exact r5, fun z => by rw [xi_nk (by decide)]; exact r6 z, r7⟩
      have hE2 : zEq (xm_si hc 161 1 (nI v)) (xm_si hr 302 17 (nI v)) := ⟨by rw [xi_nk (by decide), xi_nk (by decide)]; exact hE.1, by rw [xi_nk (by decide), xi_nk (by decide)]; exact hE.2⟩
      obtain ⟨hc', hr', s', e', κ', a1, a2, a3, a4, a5, a6, a7⟩ := zL_adv hN hP2 hE2
      rw [a1, a2, xb_some, xb_some, if_pos (Or.inr rfl)]
      refine ⟨hc', hr', s', e', κ', v, rfl, rfl, (zF.si (Or.inl rfl)).tr (a3.mono (fun a k z => Or.inr z)), (zF.fm (zF.si (by unfold zRB; omega))).tr (a4.mono (fun a k z => by unfold zTA at z; unfold zRB; omega) (fun a k z => z)), a5, a6, a7, by omega, by omega, ?_, ?_⟩
      · rw [a3.i (by omega), xi_eq]
      · rw [a4.i (fun z => by unfold zTA at z; omega), xi_eq]
  · left
    rw [if_neg (show ¬ nI κ = (2 : Int32) from fun z => hk ((nI_eq (b := 2) (by have := f.2.2.2.1; omega) (by omega)).mp z)), if_neg (fun z => hk ((zRr_1 f.2.2.2.1).2.1.mp z))]
    obtain ⟨hc', hr', a1, a2, a3, a4, a5⟩ := zL_unex hP'
    rw [a1, a2, xb_some, xb_some, if_pos (Or.inl rfl), if_pos (Or.inl rfl)]
    exact ⟨hc', hr', rfl, rfl, a3, a4, a5⟩
/-- a semicolon -/
theorem zL_semi (hN : 1000 ≤ N) (hP : zPT b x s e κ hc hr) (hE : zEq hc hr) : zFb (f_X5_takeSemicolon N hc) (f_X11_closed N hr) hc hr ∨ ∃ hc' hr' s' e' κ', f_X5_takeSemicolon N hc = some (1, hc') ∧ f_X11_closed N hr = some (1, hr') ∧ zF zCA hc hc' ∧ zFm zRB zTM hr hr' ∧ zPT b x s' e' κ' hc' hr' ∧ zEq hc' hr' ∧ e ≤ s' := by
  have hP' := hP
  obtain ⟨f, c, r⟩ := hP
  unfold f_X5_takeSemicolon f_X11_closed
  rw [c.2.2.2.1, r.2.2.2.2.1]
  by_cases hk : κ = 3
  · right
    rw [if_pos (show nI κ = (3 : Int32) by rw [hk]; rfl), if_pos ((zRr_1 f.2.2.2.1).2.2.1.mpr hk)]
    obtain ⟨hc', hr', s', e', κ', a1, a2, a3, a4, a5, a6, a7⟩ := zL_adv hN hP' hE
    rw [a1, a2, xb_some, xb_some, if_pos (Or.inr rfl)]
    exact ⟨hc', hr', s', e', κ', rfl, rfl, a3.mono (fun a k z => Or.inr z), a4.mono (fun a k z => by unfold zTA at z; unfold zRB; omega) (fun a k z => z), a5, a6, a7⟩
  · left
    rw [if_neg (show ¬ nI κ = (3 : Int32) from fun z => hk ((nI_eq (b := 3) (by have := f.2.2.2.1; omega) (by omega)).mp z)), if_neg (fun z => hk ((zRr_1 f.2.2.2.1).2.2.1.mp z))]
    obtain ⟨hc', hr', a1, a2, a3, a4, a5⟩ := zL_unex hP'
    rw [a1, a2, xb_some, xb_some, if_pos (Or.inl rfl), if_pos (Or.inl rfl)]
    exact ⟨hc', hr', rfl, rfl, a3, a4, a5⟩
set_option maxRecDepth 100000 in
theorem zKa : zKw 36 = zKw 7 ∧ zKw 32 = zKw 3 ∧ zKw 33 = zKw 4 ∧ zKw 34 = zKw 5 ∧ zKw 35 = zKw 6 ∧ zKw 37 = zKw 8 ∧ zKw 38 = zKw 9 ∧ zKw 39 = zKw 10 ∧ zKw 40 = zKw 11 ∧ zKw 41 = zKw 12 ∧ zKw 42 = zKw 13 := by decide +kernel
/-- a fixed word -/
theorem zL_word {q q' : Nat} (hN : 1000 ≤ N) (hP : zPT b x s e κ hc hr) (hV : zV0 L xs δ h0 k0 nc nt nf na W V k hc hr) (hq : q < 47) (hq' : q' < 47) (he : zKw q' = zKw q) : f_X9_spells N (3 + 2 * q) hc = some (zi (decide (κ = 1 ∧ zKw q = zWd b s (e - s))), hc) ∧ f_X11_isWord N (3 + 2 * q') hr = some (zi (decide (κ = 1 ∧ zKw q = zWd b s (e - s))), hr) := by
  have l1 := zKw_l q
  have l2 := zKw_l q'
  refine ⟨zc_spells hN hP.1 hP.2.1 (zCst hV.kc hV.ncl hq) (fun y hy => by have := l1.2 y hy; omega) l1.1, ?_⟩
  rw [zs_isWord hN hP.1 hP.2.2 (zCst hV.kr hV.nrf hq') (fun y hy => by have := l2.2 y hy; omega) l2.1, he]
end St
