/-! load: the terms are taken -/
section Tk
variable {N δ nc nt : Nat} {h g : xm_H}
theorem zt_1 (hN : 1000 ≤ N) : ∃ g, (∀ K, f_X11_takeTerms_2 N K N (0 : Int32) h = K g) ∧ zF (fun a _ => a = 308) h g ∧ ∀ j, j < 72 → xm_i g 308 j = xm_i h 307 j := by
  obtain ⟨m, ⟨c, g⟩, ⟨i1, i2, i3⟩, hE⟩ := zlpO (N := N) (F := fun n t => fun K => f_X11_takeTerms_2 N K n t.1 t.2) (I := fun i t => t.1 = nI i ∧ zF (fun a _ => a = 308) h t.2 ∧ ∀ j, j < i → xm_i t.2 308 j = xm_i h 307 j) (L := 72) (s := (0, h)) (by omega) ⟨rfl, zF.rf, fun j hj => by omega⟩ (by
    rintro m i ⟨c, g⟩ hi ⟨i1, i2, i3⟩
    dsimp only at i1 i2 i3
    subst i1
    refine ⟨(nI (i + 1), xm_si g 308 i (xm_i h 307 i)), ⟨rfl, i2.st rfl, fun j hj => ?_⟩, ?_⟩
    · dsimp only
      by_cases hj2 : j = i
      · rw [hj2]
        exact xi_eq
      · rw [xi_nk hj2]
        exact i3 j (by omega)
    · funext K
      show f_X11_takeTerms_2B N K (f_X11_takeTerms_2 N K m) (nI i) g = f_X11_takeTerms_2 N K m (nI (i + 1)) (xm_si g 308 i (xm_i h 307 i))
      unfold f_X11_takeTerms_2B
      rw [if_pos (show nI i < (72 : Int32) from nI_lt (b := 72) hi (by omega)), if_pos (zb_in hi (by decide)), nI_clamp (by omega), nI_1, i2.i (by omega)]
      rfl)
  dsimp only at i1 i2 i3
  subst i1
  refine ⟨g, fun K => ?_, i2, i3⟩
  refine (congrFun hE K).trans ?_
  show f_X11_takeTerms_2B N K (f_X11_takeTerms_2 N K m) (nI 72) g = _
  unfold f_X11_takeTerms_2B
  rw [if_neg (show ¬ nI 72 < (72 : Int32) by decide)]
theorem zt_2 (hN : 1000 ≤ N) : ∃ g, (∀ K, f_X11_takeTerms_28 N K N (0 : Int32) h = K g) ∧ zFm (fun _ _ => False) (fun a _ => a = 311) h g ∧ ∀ j, j < 8 → xm_l g 311 j = xm_l h 310 j := by
  obtain ⟨m, ⟨c, g⟩, ⟨i1, i2, i3⟩, hE⟩ := zlpO (N := N) (F := fun n t => fun K => f_X11_takeTerms_28 N K n t.1 t.2) (I := fun i t => t.1 = nI i ∧ zFm (fun _ _ => False) (fun a _ => a = 311) h t.2 ∧ ∀ j, j < i → xm_l t.2 311 j = xm_l h 310 j) (L := 8) (s := (0, h)) (by omega) ⟨rfl, zFm.rf, fun j hj => by omega⟩ (by
    rintro m i ⟨c, g⟩ hi ⟨i1, i2, i3⟩
    dsimp only at i1 i2 i3
    subst i1
    refine ⟨(nI (i + 1), xm_sl g 311 i (xm_l h 310 i)), ⟨rfl, i2.sl rfl, fun j hj => ?_⟩, ?_⟩
    · dsimp only
      by_cases hj2 : j = i
      · rw [hj2]
        exact xl_eq
      · have e : xm_l (xm_sl g 311 i (xm_l h 310 i)) 311 j = xm_l g 311 j := (zFm.rf.sl (A := fun _ _ => False) (M := fun a k => a = 311 ∧ k = i) ⟨rfl, rfl⟩).l (fun z => hj2 z.2)
        rw [e]
        exact i3 j (by omega)
    · funext K
      show f_X11_takeTerms_28B N K (f_X11_takeTerms_28 N K m) (nI i) g = f_X11_takeTerms_28 N K m (nI (i + 1)) (xm_sl g 311 i (xm_l h 310 i))
      unfold f_X11_takeTerms_28B
      rw [if_pos (show nI i < (8 : Int32) from nI_lt (b := 8) hi (by omega)), if_pos (zb_in hi (by decide)), nI_clamp (by omega), nI_1, i2.l (by omega)]
      rfl)
  dsimp only at i1 i2 i3
  subst i1
  refine ⟨g, fun K => ?_, i2, i3⟩
  refine (congrFun hE K).trans ?_
  show f_X11_takeTerms_28B N K (f_X11_takeTerms_28 N K m) (nI 8) g = _
  unfold f_X11_takeTerms_28B
  rw [if_neg (show ¬ nI 8 < (8 : Int32) by decide)]
theorem zt_3 (hN : 3000 ≤ N) : ∃ g, (∀ K, f_X11_takeTerms_54 N K N (0 : Int32) h = K g) ∧ zF (fun a _ => a = 303) h g ∧ ∀ j, j < 2217 → xm_i g 303 j = 0 := by
  obtain ⟨m, ⟨c, g⟩, ⟨i1, i2, i3⟩, hE⟩ := zlpO (N := N) (F := fun n t => fun K => f_X11_takeTerms_54 N K n t.1 t.2) (I := fun i t => t.1 = nI i ∧ zF (fun a _ => a = 303) h t.2 ∧ ∀ j, j < i → xm_i t.2 303 j = 0) (L := 2217) (s := (0, h)) (by omega) ⟨rfl, zF.rf, fun j hj => by omega⟩ (by
    rintro m i ⟨c, g⟩ hi ⟨i1, i2, i3⟩
    dsimp only at i1 i2 i3
    subst i1
    refine ⟨(nI (i + 1), xm_si g 303 i 0), ⟨rfl, i2.st rfl, fun j hj => ?_⟩, ?_⟩
    · dsimp only
      by_cases hj2 : j = i
      · rw [hj2]
        exact xi_eq
      · rw [xi_nk hj2]
        exact i3 j (by omega)
    · funext K
      show f_X11_takeTerms_54B N K (f_X11_takeTerms_54 N K m) (nI i) g = f_X11_takeTerms_54 N K m (nI (i + 1)) (xm_si g 303 i 0)
      unfold f_X11_takeTerms_54B
      rw [if_pos (show nI i < (2217 : Int32) from nI_lt (b := 2217) hi (by omega)), if_pos (zb_in hi (by decide)), nI_clamp (by omega), nI_1]
      rfl)
  dsimp only at i1 i2 i3
  subst i1
  refine ⟨g, fun K => ?_, i2, i3⟩
  refine (congrFun hE K).trans ?_
  show f_X11_takeTerms_54B N K (f_X11_takeTerms_54 N K m) (nI 2217) g = _
  unfold f_X11_takeTerms_54B
  rw [if_neg (show ¬ nI 2217 < (2217 : Int32) by decide)]
def zC4 (T : zV) (m : Nat) (S : zV) : Prop := (∀ c, c < m → S (3 + 6 * c) = T (15 + c) ∧ S (3 + 6 * c + 1) = T (23 + c) ∧ S (3 + 6 * c + 3) = 100 ∧ S (3 + 6 * c + 4) = T (55 + c)) ∧ (∀ c, c < 8 → S (3 + 6 * c + 2) = 0 ∧ S (3 + 6 * c + 5) = 0) ∧ S 0 = 0 ∧ S 1 = 0 ∧ S 2 = 0
theorem zt_4 (hN : 1000 ≤ N) (h0 : ∀ j, j < 2217 → xm_i h 303 j = 0) : ∃ g, (∀ K, f_X11_takeTerms_76 N K N (0 : Int32) h = K g) ∧ zF (fun a _ => a = 303) h g ∧ zC4 (xm_i h 308) 8 (xm_i g 303) := by
  obtain ⟨m, ⟨c, g⟩, ⟨i1, i2, i3⟩, hE⟩ := zlpO (N := N) (F := fun n t => fun K => f_X11_takeTerms_76 N K n t.1 t.2) (I := fun i t => t.1 = nI i ∧ zF (fun a _ => a = 303) h t.2 ∧ zC4 (xm_i h 308) i (xm_i t.2 303)) (L := 8) (s := (0, h)) (by omega) ⟨rfl, zF.rf, fun c hc => by omega, fun c hc => ⟨h0 _ (by omega), h0 _ (by omega)⟩, h0 _ (by omega), h0 _ (by omega), h0 _ (by omega)⟩ (by
    rintro m i ⟨c, g⟩ hi ⟨i1, i2, i3⟩
    dsimp only at i1 i2 i3
    subst i1
    refine ⟨(nI (i + 1), xm_si (xm_si (xm_si (xm_si g 303 (3 + 6 * i) (xm_i h 308 (15 + i))) 303 (3 + 6 * i + 1) (xm_i h 308 (23 + i))) 303 (3 + 6 * i + 3) 100) 303 (3 + 6 * i + 4) (xm_i h 308 (55 + i))), ⟨rfl, (((i2.st rfl).st rfl).st rfl).st rfl, ?_⟩, ?_⟩
    · dsimp only
      obtain ⟨j1, j2, j3, j4, j5⟩ := i3
      have eO : ∀ j, j ≠ 3 + 6 * i → j ≠ 3 + 6 * i + 1 → j ≠ 3 + 6 * i + 3 → j ≠ 3 + 6 * i + 4 → xm_i (xm_si (xm_si (xm_si (xm_si g 303 (3 + 6 * i) (xm_i h 308 (15 + i))) 303 (3 + 6 * i + 1) (xm_i h 308 (23 + i))) 303 (3 + 6 * i + 3) 100) 303 (3 + 6 * i + 4) (xm_i h 308 (55 + i))) 303 j = xm_i g 303 j := fun j h1 h2 h3 h4 => by rw [xi_nk h4, xi_nk h3, xi_nk h2, xi_nk h1]
      refine ⟨fun c hc => ?_, fun c hc => ?_, (eO _ (by omega) (by omega) (by omega) (by omega)).trans j3, (eO _ (by omega) (by omega) (by omega) (by omega)).trans j4, (eO _ (by omega) (by omega) (by omega) (by omega)).trans j5⟩
      · by_cases hci : c = i
        · subst hci
          exact ⟨by rw [xi_nk (by omega), xi_nk (by omega), xi_nk (by omega), xi_eq], by rw [xi_nk (by omega), xi_nk (by omega), xi_eq], by rw [xi_nk (by omega), xi_eq], xi_eq⟩
        · rw [eO _ (by omega) (by omega) (by omega) (by omega), eO _ (by omega) (by omega) (by omega) (by omega), eO _ (by omega) (by omega) (by omega) (by omega), eO _ (by omega) (by omega) (by omega) (by omega)]
          exact j1 c (by omega)
      · rw [eO _ (by omega) (by omega) (by omega) (by omega), eO _ (by omega) (by omega) (by omega) (by omega)]
        exact j2 c hc
    · funext K
      show f_X11_takeTerms_76B N K (f_X11_takeTerms_76 N K m) (nI i) g = f_X11_takeTerms_76 N K m (nI (i + 1)) _
      unfold f_X11_takeTerms_76B
      rw [if_pos (show nI i < (8 : Int32) from nI_lt (b := 8) hi (by omega)), show (15 : Int32) + nI i = nI (15 + i) from nI_add 15 i, if_pos (zb_in (by omega) (by decide)), nI_clamp (by omega), zs_set0 hi, xb_some, show (23 : Int32) + nI i = nI (23 + i) from nI_add 23 i, if_pos (zb_in (by omega) (by decide)), nI_clamp (by omega), zs_set1 hi, xb_some, zs_set3 hi, xb_some, show (55 : Int32) + nI i = nI (55 + i) from nI_add 55 i, if_pos (zb_in (by omega) (by decide)), nI_clamp (by omega), zs_set4 hi, xb_some, nI_1, xi_ne (show (308 : Nat) ≠ 303 by decide), xi_ne (show (308 : Nat) ≠ 303 by decide), xi_ne (show (308 : Nat) ≠ 303 by decide), xi_ne (show (308 : Nat) ≠ 303 by decide), i2.i (a := 308) (k := 15 + i) (by omega), i2.i (a := 308) (k := 23 + i) (by omega), i2.i (a := 308) (k := 55 + i) (by omega)])
  dsimp only at i1 i2 i3
  subst i1
  refine ⟨g, fun K => ?_, i2, i3⟩
  refine (congrFun hE K).trans ?_
  show f_X11_takeTerms_76B N K (f_X11_takeTerms_76 N K m) (nI 8) g = _
  unfold f_X11_takeTerms_76B
  rw [if_neg (show ¬ nI 8 < (8 : Int32) by decide)]
theorem zt_5 (hN : 1000 ≤ N) {T : zV} (h4 : zC4 T 8 (xm_i h 303)) : ∃ g, f_X11_takeTerms_143 N N (0 : Int32) h = some ((), g) ∧ zF (fun a k => a = 303 ∨ (a = 302 ∧ k = 3)) h g ∧ zC4 T 8 (xm_i g 303) ∧ (∀ t, t < 6 → xm_i g 303 (51 + t) = xm_i h 308 (8 + t)) ∧ xm_i g 302 3 = 0 := by
  obtain ⟨m, ⟨c, g⟩, ⟨i1, i2, i3, i4⟩, hE⟩ := zlpO (N := N) (F := fun n t => f_X11_takeTerms_143 N n t.1 t.2) (I := fun i t => t.1 = nI i ∧ zF (fun a k => a = 303 ∨ (a = 302 ∧ k = 3)) h t.2 ∧ zC4 T 8 (xm_i t.2 303) ∧ ∀ t', t' < i → xm_i t.2 303 (51 + t') = xm_i h 308 (8 + t')) (L := 6) (s := (0, h)) (by omega) ⟨rfl, zF.rf, h4, fun t ht => by omega⟩ (by
    rintro m i ⟨c, g⟩ hi ⟨i1, i2, i3, i4⟩
    dsimp only at i1 i2 i3 i4
    subst i1
    refine ⟨(nI (i + 1), xm_si g 303 (51 + i) (xm_i h 308 (8 + i))), ⟨rfl, i2.st (by omega), ?_, fun t ht => ?_⟩, ?_⟩
    · dsimp only
      obtain ⟨j1, j2, j3, j4, j5⟩ := i3
      have eO : ∀ j, j ≠ 51 + i → xm_i (xm_si g 303 (51 + i) (xm_i h 308 (8 + i))) 303 j = xm_i g 303 j := fun j h1 => xi_nk h1
      refine ⟨fun c hc => ?_, fun c hc => ?_, (eO _ (by omega)).trans j3, (eO _ (by omega)).trans j4, (eO _ (by omega)).trans j5⟩
      · rw [eO _ (by omega), eO _ (by omega), eO _ (by omega), eO _ (by omega)]
        exact j1 c hc
      · rw [eO _ (by omega), eO _ (by omega)]
        exact j2 c hc
    · dsimp only
      by_cases hti : t = i
      · rw [hti]
        exact xi_eq
      · rw [xi_nk (by omega)]
        exact i4 t (by omega)
    · show f_X11_takeTerms_143B N (f_X11_takeTerms_143 N m) (nI i) g = f_X11_takeTerms_143 N m (nI (i + 1)) _
      unfold f_X11_takeTerms_143B
      rw [if_pos (show nI i < (6 : Int32) from nI_lt (b := 6) hi (by omega)), show (8 : Int32) + nI i = nI (8 + i) from nI_add 8 i, if_pos (zb_in (by omega) (by decide)), show (51 : Int32) + nI i = nI (51 + i) from nI_add 51 i, if_pos (zb_in (by omega) (by decide)), nI_clamp (by omega), nI_clamp (by omega), nI_1, i2.i (a := 308) (by omega)]
      rfl)
  dsimp only at i1 i2 i3 i4
  subst i1
  refine ⟨xm_si g 302 3 0, hE.trans ?_, i2.st (by omega), ?_, fun t ht => ?_, xi_eq⟩
  · show f_X11_takeTerms_143B N (f_X11_takeTerms_143 N m) (nI 6) g = _
    unfold f_X11_takeTerms_143B
    rw [if_neg (show ¬ nI 6 < (6 : Int32) by decide)]
    rfl
  · rw [zU_ot (by decide)]
    exact i3
  · rw [xi_ne (by decide)]
    exact i4 t ht
theorem zs_take (hN : 3000 ≤ N) : ∃ g, f_X11_takeTerms N h = some ((), g) ∧ zFm (fun a k => a = 308 ∨ a = 303 ∨ (a = 302 ∧ k = 3)) (fun a _ => a = 311) h g ∧ (∀ j, j < 72 → xm_i g 308 j = xm_i h 307 j) ∧ (∀ j, j < 8 → xm_l g 311 j = xm_l h 310 j) ∧ zC4 (xm_i g 308) 8 (xm_i g 303) ∧ (∀ t, t < 6 → xm_i g 303 (51 + t) = xm_i g 308 (8 + t)) ∧ xm_i g 302 3 = 0 := by
  obtain ⟨g1, a1, a2, a3⟩ := zt_1 (N := N) (h := h) (by omega)
  obtain ⟨g2, b1, b2, b3⟩ := zt_2 (N := N) (h := g1) (by omega)
  obtain ⟨g3, c1, c2, c3⟩ := zt_3 (N := N) (h := g2) hN
  obtain ⟨g4, d1, d2, d3⟩ := zt_4 (N := N) (h := g3) (by omega) c3
  obtain ⟨g5, e1, e2, e3, e4, e5⟩ := zt_5 (N := N) (h := g4) (by omega) d3
  have T4 : xm_i g4 308 = xm_i g3 308 := d2.row (fun k z => by omega)
  have T5 : xm_i g5 308 = xm_i g4 308 := e2.row (fun k z => by omega)
  have T3 : xm_i g3 308 = xm_i g1 308 := (c2.row (fun k z => by omega)).trans (b2.row (fun k z => z))
  refine ⟨g5, ?_, ?_, fun j hj => ?_, fun j hj => ?_, ?_, fun t ht => ?_, e5⟩
  · unfold f_X11_takeTerms
    rw [a1, b1, c1, d1]
    exact e1
  · exact ((a2.mono (fun a k z => Or.inl z)).fm).tr ((b2.mono (fun a k z => z.elim) (fun a k z => z)).tr (((c2.mono (fun a k z => Or.inr (Or.inl z))).fm).tr (((d2.mono (fun a k z => Or.inr (Or.inl z))).fm).tr ((e2.mono (fun a k z => Or.inr z)).fm))))
  · rw [T5, T4, T3]
    exact a3 j hj
  · rw [e2.l, d2.l, c2.l, b3 j hj, a2.l]
  · rw [T5, T4]
    exact e3
  · rw [T5]
    exact e4 t ht
/-- the class's standing begins -/
theorem zc_open (hN : 1000 ≤ N) (hδ : δ = 164 ∨ δ = 183) (hnt : nt ≤ 6) (hnc : nc ≤ 8) (e5 : xm_i h δ 5 = nI nt) (e7 : xm_i h δ 7 = nI nc) : ∃ g, f_X7_begin N δ h = some ((), g) ∧ zF (fun a k => (201 ≤ a ∧ a ≤ 208)) h g ∧ xm_i g 201 0 = 0 ∧ xm_i g 201 1 = 0 ∧ xm_i g 201 2 = 0 ∧ xm_i g 201 3 = 0 ∧ (∀ t, t < nt → xm_i g 202 t = xm_i h (δ + 3 + t) 1) ∧ (∀ c, c < nc → xm_i g 203 c = xm_i h (δ + 10 + c) 1 ∧ xm_i g 204 c = xm_i h (δ + 10 + c) 2 ∧ xm_i g 205 c = xm_i h (δ + 10 + c) 6 ∧ xm_i g 208 c = 0) ∧ (∀ c, c < 8 → xm_i g 206 c = 0 ∧ xm_i g 207 c = 100) ∧ (∀ c, nc ≤ c → c < 8 → xm_i g 208 c = xm_i h 208 c) := by
  unfold f_X7_begin
  simp only [xl]
  have F0 : zF (fun a k => a = 201) h (xm_si (xm_si (xm_si h 201 0 0) 201 2 0) 201 3 0) := ((zF.si (A := fun a (_ : Nat) => a = 201) rfl).st rfl).st rfl
  have z0 : xm_i (xm_si (xm_si (xm_si h 201 0 0) 201 2 0) 201 3 0) 201 0 = 0 := by rw [xi_nk (by decide), xi_nk (by decide), xi_eq]
  have z2 : xm_i (xm_si (xm_si (xm_si h 201 0 0) 201 2 0) 201 3 0) 201 2 = 0 := by rw [xi_nk (by decide), xi_eq]
  have z3 : xm_i (xm_si (xm_si (xm_si h 201 0 0) 201 2 0) 201 3 0) 201 3 = 0 := xi_eq
  generalize xm_si (xm_si (xm_si h 201 0 0) 201 2 0) 201 3 0 = g0 at F0 z0 z2 z3 ⊢
  obtain ⟨m, ⟨c, g1⟩, ⟨i1, i2, i3⟩, hE⟩ := zlpO (N := N) (F := fun n t => fun K => f_X7_begin_17 N δ K n t.1 t.2) (I := fun i t => t.1 = nI i ∧ zF (fun a k => a = 202) g0 t.2 ∧ ∀ t', t' < i → xm_i t.2 202 t' = xm_i h (δ + 3 + t') 1) (L := nt) (s := (0, g0)) (by omega) ⟨rfl, zF.rf, fun t ht => by omega⟩ (by
    rintro m i ⟨c, g⟩ hi ⟨i1, i2, i3⟩
    dsimp only at i1 i2 i3
    subst i1
    refine ⟨(nI (i + 1), xm_si g 202 i (xm_i h (δ + 3 + i) 1)), ⟨rfl, i2.st rfl, fun t ht => ?_⟩, ?_⟩
    · dsimp only
      by_cases hti : t = i
      · rw [hti]
        exact xi_eq
      · rw [xi_nk hti]
        exact i3 t (by omega)
    · funext K
      show f_X7_begin_17B N δ K (f_X7_begin_17 N δ K m) (nI i) g = f_X7_begin_17 N δ K m (nI (i + 1)) _
      unfold f_X7_begin_17B
      rw [i2.i (by omega), F0.i (by omega), e5, if_pos (nI_lt hi (by omega)), if_pos (zb_in (by omega) (by decide)), nI_clamp (by omega), nI_1, i2.i (a := δ + 3 + i) (by omega), F0.i (a := δ + 3 + i) (by omega)]
      rfl)
  dsimp only at i1 i2 i3
  subst i1
  have hE2 : ∀ K, f_X7_begin_17 N δ K N (0 : Int32) g0 = K g1 := fun K => by
    refine (congrFun hE K).trans ?_
    show f_X7_begin_17B N δ K (f_X7_begin_17 N δ K m) (nI nt) g1 = _
    unfold f_X7_begin_17B
    rw [i2.i (by omega), F0.i (by omega), e5, if_neg (zlt_irr _)]
  rw [hE2]
  obtain ⟨m2, ⟨c, g2⟩, ⟨j1, j2, j3, j4⟩, hE3⟩ := zlpO (N := N) (F := fun n t => fun K => f_X7_begin_48 N δ K n t.1 t.2) (I := fun i t => t.1 = nI i ∧ zF (fun a k => a = 203 ∨ a = 204 ∨ a = 205 ∨ a = 208) g1 t.2 ∧ (∀ c, c < i → xm_i t.2 203 c = xm_i h (δ + 10 + c) 1 ∧ xm_i t.2 204 c = xm_i h (δ + 10 + c) 2 ∧ xm_i t.2 205 c = xm_i h (δ + 10 + c) 6 ∧ xm_i t.2 208 c = 0) ∧ ∀ c, i ≤ c → xm_i t.2 208 c = xm_i g1 208 c) (L := nc) (s := (0, g1)) (by omega) ⟨rfl, zF.rf, fun t ht => by omega, fun c _ => rfl⟩ (by
    rintro m i ⟨c, g⟩ hi ⟨i1, i2', i3, i4⟩
    dsimp only at i1 i2' i3 i4
    subst i1
    have ge : ∀ k, xm_i g (δ + 10 + i) k = xm_i h (δ + 10 + i) k := fun k => by rw [i2'.i (by omega), i2.i (by omega), F0.i (by omega)]
    refine ⟨(nI (i + 1), xm_si (xm_si (xm_si (xm_si g 203 i (xm_i h (δ + 10 + i) 1)) 204 i (xm_i h (δ + 10 + i) 2)) 205 i (xm_i h (δ + 10 + i) 6)) 208 i 0), ⟨rfl, (((i2'.st (by omega)).st (by omega)).st (by omega)).st (by omega), fun c hc => ?_, fun c hc => ?_⟩, ?_⟩
    · dsimp only
      by_cases hci : c = i
      · subst hci
        exact ⟨by rw [xi_ne (by decide), xi_ne (by decide), xi_ne (by decide), xi_eq], by rw [xi_ne (by decide), xi_ne (by decide), xi_eq], by rw [xi_ne (by decide), xi_eq], xi_eq⟩
      · rw [xi_nk hci, xi_nk hci, xi_nk hci, xi_nk hci, xi_nk hci, xi_nk hci, xi_nk hci, xi_nk hci, xi_nk hci, xi_nk hci, xi_nk hci, xi_nk hci, xi_nk hci, xi_nk hci, xi_nk hci, xi_nk hci]
        exact i3 c (by omega)
    · dsimp only
      rw [xi_nk (by omega), xi_nk (by omega), xi_nk (by omega), xi_nk (by omega)]
      exact i4 c (by omega)
    · funext K
      show f_X7_begin_48B N δ K (f_X7_begin_48 N δ K m) (nI i) g = f_X7_begin_48 N δ K m (nI (i + 1)) _
      unfold f_X7_begin_48B
      simp only [xl]
      rw [i2'.i (by omega), i2.i (by omega), F0.i (by omega), e7, if_pos (nI_lt hi (by omega)), if_pos (zb_in (by omega) (by decide)), nI_clamp (by omega), nI_1, xi_ne (show δ + 10 + i ≠ 204 by omega), xi_ne (show δ + 10 + i ≠ 203 by omega), xi_ne (show δ + 10 + i ≠ 203 by omega), ge, ge, ge])
  dsimp only at j1 j2 j3 j4
  subst j1
  have hE4 : ∀ K, f_X7_begin_48 N δ K N (0 : Int32) g1 = K g2 := fun K => by
    refine (congrFun hE3 K).trans ?_
    show f_X7_begin_48B N δ K (f_X7_begin_48 N δ K m2) (nI nc) g2 = _
    unfold f_X7_begin_48B
    rw [j2.i (by omega), i2.i (by omega), F0.i (by omega), e7, if_neg (zlt_irr _)]
  rw [hE4]
  obtain ⟨g3, k1, k2, k3, k4⟩ := zc_beginDay (N := N) (h := g2) hN
  rw [k1, xb_some]
  refine ⟨g3, rfl, (F0.mono (fun a k z => by omega)).tr ((i2.mono (fun a k z => by omega)).tr ((j2.mono (fun a k z => by omega)).tr (k2.mono (fun a k z => by omega)))), ?_, k3, ?_, ?_, fun t ht => ?_, fun c hc => ?_, k4, fun c h1 h2 => ?_⟩
  · rw [k2.i (by omega), j2.i (by omega), i2.i (by omega)]
    exact z0
  · rw [k2.i (by omega), j2.i (by omega), i2.i (by omega)]
    exact z2
  · rw [k2.i (by omega), j2.i (by omega), i2.i (by omega)]
    exact z3
  · rw [k2.i (by omega), j2.i (by omega)]
    exact i3 t ht
  · rw [k2.i (a := 203) (by omega), k2.i (a := 204) (by omega), k2.i (a := 205) (by omega), k2.i (a := 208) (by omega)]
    exact j3 c hc
  · rw [k2.i (by omega), j4 c h1, i2.i (by omega), F0.i (by omega)]
end Tk
