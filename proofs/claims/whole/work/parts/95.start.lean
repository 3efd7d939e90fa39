/-! load: the start -/
section Ld1
variable {N L δ x : Nat} {xs : zV} {b : Nat → Nat} {h g hA G : xm_H}
theorem zs_reset (hN : 1000 ≤ N) : ∃ g, f_X11_resetTerms N h = some ((), g) ∧ zF (fun a _ => a = 307) h g ∧ xm_i g 307 0 = 100 ∧ xm_i g 307 1 = 50 ∧ xm_i g 307 2 = 1 ∧ xm_i g 307 3 = 100 ∧ ∀ j, 4 ≤ j → j < 72 → xm_i g 307 j = 0 := by
  unfold f_X11_resetTerms
  obtain ⟨m, ⟨c, g⟩, ⟨i1, i2, i3⟩, hE⟩ := zlpO (N := N) (F := fun n t => fun K => f_X11_resetTerms_2 N K n t.1 t.2) (I := fun i t => t.1 = nI i ∧ zF (fun a _ => a = 307) h t.2 ∧ ∀ j, j < i → xm_i t.2 307 j = 0) (L := 72) (s := (0, h)) (by omega) ⟨rfl, zF.rf, fun j hj => by omega⟩ (by
    rintro m i ⟨c, g⟩ hi ⟨i1, i2, i3⟩
    dsimp only at i1 i2 i3
    subst i1
    refine ⟨(nI (i + 1), xm_si g 307 i 0), ⟨rfl, i2.st rfl, fun j hj => ?_⟩, ?_⟩
    · dsimp only
      by_cases hj2 : j = i
      · rw [hj2]
        exact xi_eq
      · rw [xi_nk hj2]
        exact i3 j (by omega)
    · funext K
      show f_X11_resetTerms_2B N K (f_X11_resetTerms_2 N K m) (nI i) g = f_X11_resetTerms_2 N K m (nI (i + 1)) (xm_si g 307 i 0)
      unfold f_X11_resetTerms_2B
      rw [if_pos (show nI i < (72 : Int32) from nI_lt (b := 72) hi (by omega)), if_pos (zb_in hi (by decide)), nI_clamp (by omega), nI_1]
      rfl)
  dsimp only at i1 i2 i3
  subst i1
  have hE2 : ∀ K, f_X11_resetTerms_2 N K N (0 : Int32) h = K g := fun K => by
    refine (congrFun hE K).trans ?_
    show f_X11_resetTerms_2B N K (f_X11_resetTerms_2 N K m) (nI 72) g = _
    unfold f_X11_resetTerms_2B
    rw [if_neg (show ¬ nI 72 < (72 : Int32) by decide)]
  rw [hE2]
  simp only [xl]
  refine ⟨_, rfl, (((i2.st rfl).st rfl).st rfl).st rfl, ?_, ?_, ?_, xi_eq, fun j h1 h2 => ?_⟩
  · rw [xi_nk (by decide), xi_nk (by decide), xi_nk (by decide), xi_eq]
  · rw [xi_nk (by decide), xi_nk (by decide), xi_eq]
  · rw [xi_nk (by decide), xi_eq]
  · rw [xi_nk (by omega), xi_nk (by omega), xi_nk (by omega), xi_nk (by omega)]
    exact i3 j h2
def zK0 (x : Nat) (G : xm_H) : xm_H := xm_si (xm_si (xm_si G 302 4 0) 302 9 (nI x)) 302 6 0
def zRl (N x : Nat) (G : xm_H) (K : Int32 → xm_H → Option (Int32 × xm_H)) : Option (Int32 × xm_H) := xb (f_X11_resetTerms N (xm_si (xm_si (xm_si (zK0 x G) 302 11 0) 302 14 0) 302 15 (-1))) fun _ h48 => xb (f_X11_advance N h48) fun _ h51 => f_X11_load_68 N K N 1 h51
theorem zL_ld (hN : 1000 ≤ N) (hx : x ≤ 600) (hδ : δ = 164 ∨ δ = 183) (n1 : 318 ≤ xm_n hA) (n2 : 318 ≤ xm_n G) (k1 : zKon L xs hA) (k2 : zKon L xs G) (k3 : xm_k G 309 = (104, 6)) (k4 : xm_k G 310 = (104, 8)) (b1 : zBy b hA) (b2 : zBz b G) : (∃ hc' hr', f_X5_read N δ (nI x) hA = some (0, hc') ∧ (∀ K, zRl N x G K = K 0 hr') ∧ zEnd L xs δ hA (zK0 x G) hc' hr') ∨ ∃ hc' hr' nc nt nf na W V, f_X5_read N δ (nI x) hA = some (1, hc') ∧ (∀ K, zRl N x G K = K 1 hr') ∧ zEq hc' hr' ∧ zV0 L xs δ hA (zK0 x G) nc nt nf na W V (nc + nt) hc' hr' := by
  have FK : zF (fun a k => a = 302 ∧ (k = 4 ∨ k = 6 ∨ k = 9)) G (zK0 x G) := ((zF.si (by omega)).st (by omega)).st (by omega)
  have K9 : xm_i (zK0 x G) 302 9 = nI x := by unfold zK0; rw [xi_nk (by decide), xi_eq]
  have E0 : zE0 L xs δ hA (zK0 x G) := ⟨hδ, n1, by rw [FK.n]; exact n2, k1, k2.fx FK.x n2 (fun a k z1 z => by omega), (FK.k 309).trans k3, (FK.k 310).trans k4⟩
  have KB : zBz b (zK0 x G) := fun i hi => by rw [FK.i (by omega)]; exact b2 i hi
  generalize hk0 : zK0 x G = k0 at FK K9 E0 KB
  unfold f_X5_read f_X6_clear f_X9_begin zRl
  rw [hk0]
  -- the reference
  have R1 : zF (fun a k => a = 302 ∧ (k = 11 ∨ k = 14 ∨ k = 15)) k0 (xm_si (xm_si (xm_si k0 302 11 0) 302 14 0) 302 15 (-1)) := ((zF.si (by omega)).st (by omega)).st (by omega)
  have r11 : xm_i (xm_si (xm_si (xm_si k0 302 11 0) 302 14 0) 302 15 (-1)) 302 11 = 0 := by rw [xi_nk (by decide), xi_nk (by decide), xi_eq]
  have r14 : xm_i (xm_si (xm_si (xm_si k0 302 11 0) 302 14 0) 302 15 (-1)) 302 14 = 0 := by rw [xi_nk (by decide), xi_eq]
  have r15 : xm_i (xm_si (xm_si (xm_si k0 302 11 0) 302 14 0) 302 15 (-1)) 302 15 = -1 := xi_eq
  generalize xm_si (xm_si (xm_si k0 302 11 0) 302 14 0) 302 15 (-1) = k1 at R1 r11 r14 r15 ⊢
  obtain ⟨g2, s1, s2, s3, s4, s5, s6, s7⟩ := zs_reset (N := N) (h := k1) hN
  obtain ⟨s, e, κ, hT⟩ := zTk_ex (b := b) (x := x) (p := 0) (by omega)
  obtain ⟨hf, _⟩ := zTk_f hx hT
  obtain ⟨hr, t1, t2, t3⟩ := zs_advance (N := N) (h := g2) hN hx (fun i hi => by rw [s2.i (by omega), R1.i (by omega)]; exact KB i hi) (by rw [s2.i (by omega), R1.i (by omega)]; exact K9) (by rw [s2.i (by omega)]; exact r11) hT
  -- the class
  simp only [xl, xb_some]
  rw [if_neg (show ¬ (600 : Int32) < nI x from nI_nlt (a := 600) (by omega) (by omega))]
  have F1 : zF (zGA δ) hA (xm_si (xm_si (xm_si (xm_si (xm_si (xm_si (xm_si (xm_si (xm_si (xm_si (xm_si hA 161 4 0) 161 5 (-1)) δ 0 100) δ 1 50) (δ + 1) 0 100) δ 3 1) δ 5 0) δ 7 0) δ 8 0) 162 2 (nI x)) 162 3 0) := ((((((((((zF.si (by unfold zGA; omega)).st (by unfold zGA; omega)).st (by unfold zGA; omega)).st (by unfold zGA; omega)).st (by unfold zGA; omega)).st (by unfold zGA; omega)).st (by unfold zGA; omega)).st (by unfold zGA; omega)).st (by unfold zGA; omega)).st (by unfold zGA; omega)).st (by unfold zGA; omega)
  obtain ⟨g0, hg0⟩ : ∃ g0, g0 = xm_si (xm_si (xm_si (xm_si (xm_si (xm_si (xm_si (xm_si (xm_si (xm_si (xm_si hA 161 4 0) 161 5 (-1)) δ 0 100) δ 1 50) (δ + 1) 0 100) δ 3 1) δ 5 0) δ 7 0) δ 8 0) 162 2 (nI x)) 162 3 0 := ⟨_, rfl⟩
  have gi : ∀ a k, xm_i g0 a k = if a = 162 ∧ k = 3 then 0 else if a = 162 ∧ k = 2 then nI x else if a = δ ∧ k = 8 then 0 else if a = δ ∧ k = 7 then 0 else if a = δ ∧ k = 5 then 0 else if a = δ ∧ k = 3 then 1 else if a = δ + 1 ∧ k = 0 then 100 else if a = δ ∧ k = 1 then 50 else if a = δ ∧ k = 0 then 100 else if a = 161 ∧ k = 5 then -1 else if a = 161 ∧ k = 4 then 0 else xm_i hA a k := fun a k => by
    rw [hg0]
    simp only [xi_si]
  rw [← hg0] at F1 ⊢
  obtain ⟨hc, u1, u2, u3⟩ := zc_advance (N := N) (h := g0) hN hx (fun i hi => by rw [F1.i (by unfold zGA; omega)]; exact b1 i hi) (by rw [gi, if_neg (by omega), if_pos (by omega)]) (by rw [gi, if_pos (by omega)]; rfl) hT
  rw [u1, xb_some, xb_some]
  simp only [s1, xb_some, t1]
  have P : zPT b x s e κ hc hr := ⟨hf, u3, t3⟩
  have c0 : ∀ a k, a ≠ 162 → xm_i hc a k = xm_i g0 a k := fun a k ha => u2.i (by omega)
  have d0 : ∀ k, xm_i hr 307 k = xm_i g2 307 k := fun k => t2.i (fun z => by unfold zTA at z; omega)
  have E : zEq hc hr := by
    constructor
    · rw [c0 _ _ (by decide), gi, if_neg (by omega), if_neg (by omega), if_neg (by omega), if_neg (by omega), if_neg (by omega), if_neg (by omega), if_neg (by omega), if_neg (by omega), if_neg (by omega), if_neg (by omega), if_pos (by omega), t2.i (fun z => by unfold zTA at z; omega), s2.i (by omega), r14]
    · rw [c0 _ _ (by decide), gi, if_neg (by omega), if_neg (by omega), if_neg (by omega), if_neg (by omega), if_neg (by omega), if_neg (by omega), if_neg (by omega), if_neg (by omega), if_neg (by omega), if_pos (by omega), t2.i (fun z => by unfold zTA at z; omega), s2.i (by omega), r15]
  have FC : zF (zGA δ) hA hc := F1.tr (u2.mono (fun a k z => by unfold zGA; omega))
  have FR0 : zF zHA k0 g2 := (R1.mono (fun a k z => by unfold zHA; omega)).tr (s2.mono (fun a k z => Or.inr z))
  have FR : zFm zHA zHM k0 hr := FR0.fm.tr (t2.mono (fun a k z => by unfold zTA at z; unfold zHA; omega) (fun a k z => Or.inl z))
  have V : zV0 L xs δ hA k0 0 0 1 0 (fun _ => []) (fun _ => []) (0 + 0) hc hr := by
    refine ⟨E0, FC.xr, FR, ⟨⟨by omega, by omega, by omega, by omega, by omega, ?_, ?_, ?_, ?_, ?_, ?_, fun j hj => ?_, fun c hc => by omega⟩, ⟨?_, ?_, ?_, ?_, ?_, fun j hj => ?_, fun c hc => by omega⟩, ?_, fun t ht => by omega, fun t ht => by omega, fun t ht => by omega, fun c hc => by omega, fun c h1 h2 => ?_, fun k hk => by omega⟩, by rw [FC.n]; omega, by rw [FC.sz]; omega⟩
    · rw [d0]
      exact s7 14 (by omega) (by omega)
    · rw [d0]
      exact s7 7 (by omega) (by omega)
    · rw [d0]
      exact s5
    · rw [d0]
      exact s7 63 (by omega) (by omega)
    · rw [d0, s3]
      exact ⟨100, by omega, by omega, rfl⟩
    · rw [d0, s4]
      exact ⟨50, by omega, by omega, rfl⟩
    · have : j = 0 := by omega
      subst this
      rw [d0, s6]
      exact ⟨100, by omega, by omega, rfl⟩
    · rw [d0, s3, c0 _ _ (by omega), gi, if_neg (by omega), if_neg (by omega), if_neg (by omega), if_neg (by omega), if_neg (by omega), if_neg (by omega), if_neg (by omega), if_neg (by omega), if_pos (by omega)]
    · rw [d0, s4, c0 _ _ (by omega), gi, if_neg (by omega), if_neg (by omega), if_neg (by omega), if_neg (by omega), if_neg (by omega), if_neg (by omega), if_neg (by omega), if_pos (by omega)]
    · rw [d0, s5, c0 _ _ (by omega), gi, if_neg (by omega), if_neg (by omega), if_neg (by omega), if_neg (by omega), if_neg (by omega), if_pos (by omega)]
    · rw [d0, s7 7 (by omega) (by omega), c0 _ _ (by omega), gi, if_neg (by omega), if_neg (by omega), if_neg (by omega), if_neg (by omega), if_pos (by omega)]
    · rw [d0, s7 14 (by omega) (by omega), c0 _ _ (by omega), gi, if_neg (by omega), if_neg (by omega), if_neg (by omega), if_pos (by omega)]
    · have : j = 0 := by omega
      subst this
      rw [d0, s6, c0 _ _ (by omega), gi, if_neg (by omega), if_neg (by omega), if_neg (by omega), if_neg (by omega), if_neg (by omega), if_neg (by omega), if_pos (by omega)]
    · rw [c0 _ _ (by omega), gi, if_neg (by omega), if_neg (by omega), if_pos (by omega)]
      rfl
    · rw [d0]
      exact s7 (55 + c) (by omega) (by omega)
  exact zL_read hN x 0 N N s e κ 0 0 1 0 _ _ hc hr (by omega) (by omega) (by omega) (by omega) P E V
end Ld1
