/-! write -/
set_option maxRecDepth 100000 in
theorem zKe : zKw 39 = zKw 24 ∧ zKw 40 = zKw 25 ∧ zKw 41 = zKw 26 ∧ zKw 43 = zKw 27 ∧ zKw 44 = zKw 28 ∧ zKw 45 = zKw 29 ∧ zKw 46 = zKw 30 ∧ (zKw 27).length = 2 ∧ (zKw 28).length = 4 ∧ (zKw 29).length = 7 ∧ (zKw 30).length = 10 := by decide +kernel
set_option maxRecDepth 100000 in
theorem zKf : ∀ md : Fin 3, (zKw (24 + md.1)).length ≤ 6 ∧ zKw (39 + md.1) = zKw (24 + md.1) ∧ ∀ x ∈ zKw (24 + md.1), 32 ≤ x ∧ x ≤ 126 := by decide +kernel
set_option maxRecDepth 100000 in
theorem zKg : ∀ i : Fin 4, ∀ x ∈ zKw (27 + i.1), 32 ≤ x ∧ x ≤ 126 := by decide +kernel
theorem zDg_c {q : Nat} (hq : q ≤ 9999) : ∀ x ∈ zDg q, 32 ≤ x ∧ x ≤ 126 := by
  unfold zDg
  split
  · exact fun x hx => by simp at hx; omega
  · split
    · exact fun x hx => by simp at hx; omega
    · split
      · exact fun x hx => by simp at hx; omega
      · exact fun x hx => by simp at hx; omega
def zWr0 (w : List Nat) (md sp bu ef : Nat) : List Nat := w ++ [32] ++ zKw (24 + md) ++ zKw 27 ++ zDg sp ++ [47] ++ zDg bu ++ zKw 28 ++ zDg ef
def zWr1 (pz : Nat) (l : List Nat) : List Nat := if pz = 0 then l else l ++ zKw 29
def zWr2 (re : Nat) (l : List Nat) : List Nat := if 0 < re then l ++ zKw 30 ++ zDg re else l
section Wt
variable {N ρ δ nc nt nf na n nv ne la nb bo no cap L c j m bo0 sp bu ef pz re md : Nat} {xs : zV} {h g h0 hm : xm_H} {x : Int32} {l w : List Nat}
theorem zWr0_l (hw : zLet w) (h1 : md ≤ 2) (h2 : sp ≤ 9999) (h3 : bu ≤ 9999) (h4 : ef ≤ 9999) : (zWr0 w md sp bu ef).length ≤ 37 ∧ ∀ x ∈ zWr0 w md sp bu ef, 32 ≤ x ∧ x ≤ 126 := by
  have k1 := zKf ⟨md, by omega⟩
  have k2 := zKe.2.2.2.2.2.2.2
  have d1 := (zDg_b h2).1
  have d2 := (zDg_b h3).1
  have d3 := (zDg_b h4).1
  have w2 := hw.2.1
  dsimp only at k1
  unfold zWr0
  refine ⟨by simp only [List.length_append, List.length_cons, List.length_nil]; omega, fun x hx => ?_⟩
  simp only [List.mem_append, List.mem_singleton] at hx
  rcases hx with (((((((hx | hx) | hx) | hx) | hx) | hx) | hx) | hx) | hx
  · have := hw.2.2 x hx
    omega
  · omega
  · exact k1.2.2 x hx
  · exact zKg 0 x hx
  · exact zDg_c h2 x hx
  · omega
  · exact zDg_c h3 x hx
  · exact zKg 1 x hx
  · exact zDg_c h4 x hx
theorem zWr1_l (hl : l.length ≤ 37 ∧ ∀ x ∈ l, 32 ≤ x ∧ x ≤ 126) : (zWr1 pz l).length ≤ 44 ∧ ∀ x ∈ zWr1 pz l, 32 ≤ x ∧ x ≤ 126 := by
  have k2 := zKe.2.2.2.2.2.2.2
  unfold zWr1
  split
  · exact ⟨by omega, hl.2⟩
  · refine ⟨by rw [List.length_append]; omega, fun x hx => ?_⟩
    rcases List.mem_append.mp hx with hx | hx
    · exact hl.2 x hx
    · exact zKg 2 x hx
theorem zWr2_l (hr : re ≤ 16) (hl : l.length ≤ 44 ∧ ∀ x ∈ l, 32 ≤ x ∧ x ≤ 126) : (zWr2 re l).length ≤ 60 ∧ ∀ x ∈ zWr2 re l, 32 ≤ x ∧ x ≤ 126 := by
  have k2 := zKe.2.2.2.2.2.2.2
  have d1 := (zDg_b (show re ≤ 9999 by omega)).1
  unfold zWr2
  split
  · refine ⟨by rw [List.length_append, List.length_append]; omega, fun x hx => ?_⟩
    rcases List.mem_append.mp hx with hx | hx
    · rcases List.mem_append.mp hx with hx | hx
      · exact hl.2 x hx
      · exact zKg 3 x hx
    · exact zDg_c (by omega) x hx
  · exact ⟨by omega, hl.2⟩
theorem zSb.i (hS : zSb h0 bo0 j m l g) {a k : Nat} (ha : a < xm_n h0) (h1 : a ≠ 300) (h2 : a ≠ bo0) : xm_i g a k = xm_i h0 a k := by
  obtain ⟨bo, cap, s1, s2, s3, s4, s5, s6, s7, s8, s9, s10, s11, s12, s13, s14, s15⟩ := hS
  exact s13.i ha (fun z => by unfold zA3 at z; omega)
theorem zSb.r (hS : zSb h0 bo0 j m l g) {a k : Nat} (ha : a < xm_n h0) (h1 : a ≠ 300) : xm_r g a k = xm_r h0 a k := by
  obtain ⟨bo, cap, s1, s2, s3, s4, s5, s6, s7, s8, s9, s10, s11, s12, s13, s14, s15⟩ := hS
  refine Eq.trans ?_ (s13.r (k := k) ha)
  exact (if_neg (fun z => h1 z.1)).symm
theorem zSb.ra (hS : zSb h bo j m l g) (hI : zInv ρ δ nc nt nf na n nv ne la nb bo no cap L xs h) : zRA ρ nc nt nf na n (xm_i h 303) (xm_i h 308) g := by
  have hn := hI.n
  have hbo := hI.2.2.2.2.2.2.2.2.2.2.2.1
  obtain ⟨a1, a2, a3, a4⟩ := hI.ra
  have hr : ρ = 164 ∨ ρ = 183 := a1
  obtain ⟨bo, cap, s1, s2, s3, s4, s5, s6, s7, s8, s9, s10, s11, s12, s13, s14, s15⟩ := hS
  exact ⟨a1, (zRT.fx a1 s13 hn (fun a k z1 z2 z => by unfold zA3 at z; omega) hI.wt.1 a2 : zRT ρ nc nf na (xm_i h 308) (xm_sr g 300 0 _)), (zRS.fx s13 (by omega) (fun a k z1 z2 z => by unfold zA3 at z; omega) a3 : zRS 201 nc nt (xm_i h 303) (xm_i h 308) (xm_sr g 300 0 _)), (zRI.fx s13 hn (fun a k z1 z2 z3 z => by unfold zA3 at z; omega) a4 : zRI n (xm_i h 303) (xm_sr g 300 0 _))⟩
theorem zSb.up {j' : Nat} (hj : j ≤ j') (hS : zSb h0 bo0 j m l g) : zSb h0 bo0 j' m l g := by
  obtain ⟨bo, cap, s1, s2, s3, s4, s5, s6, s7, s8, s9, s10, s11, s12, s13, s14, s15⟩ := hS
  exact ⟨bo, cap, s1, s2, s3, s4, s5, s6, s7, s8, s9, s10, s11, s12, s13, by omega, by omega⟩
theorem zSb.len (hS : zSb h0 bo0 j m l g) : f_J4_length_8abf5 g = some (nI l.length, g) := by
  obtain ⟨bo, cap, s1, s2, s3, s4, s5, s6, s7, _⟩ := hS
  rw [show f_J4_length_8abf5 g = some (xm_i g 300 3, g) from rfl, s7]
def zRe (S : zV) (c n : Nat) : Nat := zpc (zMs (fun k => S (57 + 5 * k + 1)) (fun k => S (57 + 5 * k + 2)) (nI c) n)
theorem zSb.reach (hN : 1000 ≤ N) (hS : zSb h bo j m l g) (hI : zInv ρ δ nc nt nf na n nv ne la nb bo no cap L xs h) : f_X4_usersReached N (nI c) (xm_i g 201 2) g = some (nI (zRe (xm_i h 303) c n), g) := by
  have hn := hI.n
  have hbo := hI.2.2.2.2.2.2.2.2.2.2.2.1
  have hn4 := hI.ws.1
  rw [hS.i (by omega) (by omega) (by omega), hI.e2, zc_reached hN hn4 (fun i hi => by rw [hS.i (by omega) (by omega) (by omega)]; exact hI.uB2 i hi)]
  have e1 : xm_i g 211 = xm_i h 211 := funext fun k => hS.i (by omega) (by omega) (by omega)
  have e2 : xm_i g 212 = xm_i h 212 := funext fun k => hS.i (by omega) (by omega) (by omega)
  rw [e1, e2, hI.ms]
  rfl
theorem zc_wtail (hN : 1000 ≤ N) (hI : zInv ρ δ nc nt nf na n nv ne la nb bo no cap L xs h) (hS : zSb h bo j 0 l g) (hl : l.length ≤ 44) : ∃ g', (xb (f_X4_usersReached N (nI c) (xm_i g 201 2) g) fun v53 h54 => (if 0 < v53 then (xb (f_J4_append_15ec4 63 h54) fun v57 h58 => (if v57 = 300 then (xb (f_J4_append_bf812 N v53 h58) fun v61 h62 => (if v61 = 300 then (xb (f_J4_length_8abf5 h62) fun v65 h66 => (some ((.inl v65 : Int32 ⊕ Nat × Nat), h66))) else none)) else none)) else (xb (f_J4_length_8abf5 h54) fun v68 h69 => (some (.inl v68, h69))))) = some (.inl (nI (zWr2 (zRe (xm_i h 303) c n) l).length), g') ∧ zSb h bo (j + 2) 0 (zWr2 (zRe (xm_i h 303) c n) l) g' := by
  have hn := hI.n
  have hb0 := hI.2.2.2.2.2.2.2.2.2.2.2.1
  have hr : zRe (xm_i h 303) c n ≤ 16 := zpc_le _
  have k2 := zKe.2.2.2.2.2.2.2
  rw [hS.reach hN hI, xb_some]
  generalize zRe (xm_i h 303) c n = re at hr ⊢
  unfold zWr2
  by_cases h0 : 0 < re
  · rw [if_pos (show (0 : Int32) < nI re from nI_lt (a := 0) h0 (by omega)), if_pos h0]
    obtain ⟨g1, e1, s1⟩ := zc_appT (a := 63) (b := 64) (w := zKw 30) hn hS (zCst (q := 30) hI.2.2.1 hn (by omega)) (by omega) (by omega) (fun x hx => by have := zKg 3 x hx; omega) (by omega)
    obtain ⟨g2, e2, s2⟩ := zc_appN (q := re) hN hn hb0 hI.2.2.1 s1 (by omega) (by rw [List.length_append]; omega)
    rw [e1, xb_some, if_pos rfl, e2, xb_some, if_pos rfl, s2.len, xb_some]
    exact ⟨g2, rfl, s2⟩
  · rw [if_neg (show ¬ (0 : Int32) < nI re from nI_nlt (a := 0) (by omega) (by omega)), if_neg h0, hS.len, xb_some]
    exact ⟨g, rfl, hS.up (by omega)⟩
theorem zc_modeWord (h1 : md ≤ 2) : f_X10_modeWord (nI md) g = some (3 + 2 * (24 + md), g) := by
  unfold f_X10_modeWord
  rcases (show md = 0 ∨ md = 1 ∨ md = 2 by omega) with rfl | rfl | rfl
  · rfl
  · rw [if_neg (by decide), if_pos (by decide)]
  · rw [if_neg (by decide), if_neg (by decide)]
theorem zs_modeWord (h1 : md ≤ 2) : f_X11_modeWord (nI md) g = some (3 + 2 * (39 + md), g) := by
  unfold f_X11_modeWord
  rcases (show md = 0 ∨ md = 1 ∨ md = 2 by omega) with rfl | rfl | rfl
  · rfl
  · rw [if_neg (by decide), if_pos (by decide)]
  · rw [if_neg (by decide), if_neg (by decide)]
theorem zc_write {a b : Nat} (hN : 1000 ≤ N) (hI : zInv ρ δ nc nt nf na n nv ne la nb bo no cap L xs h) (hc : c < nc) (ha : xm_r h (ρ + 10 + c) 0 = some a) (ha2 : 318 ≤ a ∧ 318 ≤ b) (hb2 : b ≠ bo) (hT : zStr h a b w) (hw : zLet w) (v1 : md ≤ 2) (v2 : sp ≤ 9999) (v3 : bu ≤ 9999) (v4 : ef ≤ 9999) (v5 : pz ≤ 1) (q1 : xm_i h 303 (3 + 6 * c + 4) = nI md) (q2 : xm_i h 303 (3 + 6 * c + 2) = nI sp) (q3 : xm_i h 303 (3 + 6 * c + 1) = nI bu) (q4 : zEf (xm_i h 303) c = nI ef) (q5 : xm_i h 303 (3 + 6 * c + 5) = nI pz) : ∃ g, f_X10_write N ρ (nI c) h = some (.inl (nI (zWr2 (zRe (xm_i h 303) c n) (zWr1 pz (zWr0 w md sp bu ef))).length), g) ∧ zSb h bo 14 0 (zWr2 (zRe (xm_i h 303) c n) (zWr1 pz (zWr0 w md sp bu ef))) g := by
  have hn := hI.n
  have hnc := hI.wt.1
  have hO := hI.2.2.2.2.2.2.2
  have hK := hI.2.2.1
  have hb0 := hO.2.2.2.2.1
  have hρ : ρ = 164 ∨ ρ = 183 := hI.ra.1
  have hab : a ≠ bo := fun z => by
    have h1 := hT.2.2.1
    have h2 := hO.2.2.2.2.2.2.1
    rw [z, h2] at h1
    cases h1
  obtain ⟨f1, f2, f3, f4, f5, f6⟩ := hI.ra.2.2.1.2.2.2.2.2 c hc
  have k1 := zKf ⟨md, by omega⟩
  have k2 := zKe.2.2.2.2.2.2.2
  have d1 := (zDg_b v2).1
  have d2 := (zDg_b v3).1
  have d3 := (zDg_b v4).1
  have w2 := hw.2.1
  dsimp only at k1
  have hl0 := zWr0_l hw v1 v2 v3 v4
  obtain ⟨g0, e0, s0⟩ := zc_setLength (N := N) hO
  obtain ⟨g1, e1, s1⟩ := zc_appT hn s0 hT (by omega) (by omega) (fun x hx => by have := hw.2.2 x hx; omega) (by simp only [List.length_nil]; omega)
  rw [List.nil_append] at s1
  obtain ⟨g2, e2, s2⟩ := zc_appC (c := 32) hn s1 (by decide) (by omega)
  have m2 : xm_i g2 205 c = nI md := ((s2.i (by omega) (by omega) (by omega)).trans f3).trans q1
  obtain ⟨g3, e3, s3⟩ := zc_appT hn s2 (zCst (q := 24 + md) hK hn (by omega)) (by omega) (by omega) (fun x hx => by have := k1.2.2 x hx; omega) (by simp only [List.length_append, List.length_cons, List.length_nil]; omega)
  obtain ⟨g4, e4, s4⟩ := zc_appT (a := 57) (b := 58) (w := zKw 27) hn s3 (zCst (q := 27) hK hn (by omega)) (by omega) (by omega) (fun x hx => by have := zKg 0 x hx; omega) (by simp only [List.length_append, List.length_cons, List.length_nil]; omega)
  have m4 : xm_i g4 206 c = nI sp := ((s4.i (by omega) (by omega) (by omega)).trans f4).trans q2
  obtain ⟨g5, e5, s5⟩ := zc_appN (q := sp) hN hn hb0 hK s4 v2 (by simp only [List.length_append, List.length_cons, List.length_nil]; omega)
  obtain ⟨g6, e6, s6⟩ := zc_appC (c := 47) hn s5 (by decide) (by simp only [List.length_append, List.length_cons, List.length_nil]; omega)
  have m6 : xm_i g6 204 c = nI bu := ((s6.i (by omega) (by omega) (by omega)).trans f2).trans q3
  obtain ⟨g7, e7, s7⟩ := zc_appN (q := bu) hN hn hb0 hK s6 v3 (by simp only [List.length_append, List.length_cons, List.length_nil]; omega)
  obtain ⟨g8, e8, s8⟩ := zc_appT (a := 59) (b := 60) (w := zKw 28) hn s7 (zCst (q := 28) hK hn (by omega)) (by omega) (by omega) (fun x hx => by have := zKg 1 x hx; omega) (by simp only [List.length_append, List.length_cons, List.length_nil]; omega)
  have m8 : f_X2_pacedBid (nI c) g8 = some (nI ef, g8) := by rw [zc_pacedBid (s8.ra hI) hnc hc, q4]
  obtain ⟨g9, e9, s9⟩ := zc_appN (q := ef) hN hn hb0 hK s8 v4 (by simp only [List.length_append, List.length_cons, List.length_nil]; omega)
  have m9 : xm_i g9 208 c = nI pz := ((s9.i (by omega) (by omega) (by omega)).trans f6).trans q5
  change zSb h bo 9 0 (zWr0 w md sp bu ef) g9 at s9
  have c8 : xin (nI c) 8 := zb_in (by omega) (by decide)
  unfold f_X10_write
  rw [zq_C1 hI.c7 (by omega) hc, xe_inl, e0, xb_some, if_pos c8, nI_clamp (by omega), s0.r (by omega) (by omega), ha, xbr_some, e1, xb_some, if_pos rfl, show (32 : Int32) = nI 32 from rfl, e2, xb_some, if_pos rfl, m2, zc_modeWord v1, xb_some, e3, xb_some, if_pos rfl, e4, xb_some, if_pos rfl, m4, e5, xb_some, if_pos rfl, show (47 : Int32) = nI 47 from rfl, e6, xb_some, if_pos rfl, m6, e7, xb_some, if_pos rfl, e8, xb_some, if_pos rfl, m8, xb_some, e9, xb_some, if_pos rfl, m9]
  by_cases hz : pz = 0
  · obtain ⟨g', t1, t2⟩ := zc_wtail (c := c) hN hI s9 (by omega)
    have e : zWr1 pz (zWr0 w md sp bu ef) = zWr0 w md sp bu ef := if_pos hz
    rw [if_pos (by rw [hz]; rfl), e]
    exact ⟨g', t1, t2.up (by omega)⟩
  · have hl1 := hl0.1
    obtain ⟨g10, e10, s10⟩ := zc_appT (a := 61) (b := 62) (w := zKw 29) hn s9 (zCst (q := 29) hK hn (by omega)) (by omega) (by omega) (fun x hx => by have := zKg 2 x hx; omega) (by omega)
    obtain ⟨g', t1, t2⟩ := zc_wtail (c := c) hN hI s10 (by rw [List.length_append]; omega)
    have e : zWr1 pz (zWr0 w md sp bu ef) = zWr0 w md sp bu ef ++ zKw 29 := if_neg hz
    rw [if_neg (nI_ne0 (by omega) (by omega)), e, e10, xb_some, if_pos rfl]
    exact ⟨g', t1, t2.up (by omega)⟩
end Wt
