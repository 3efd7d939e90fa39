/-! edits: what is remembered, on both sides -/
theorem xi_cp {h : xm_H} {a b n c j : Nat} : xm_i (xm_cp h a 0 b 0 n) c j = if c = b ∧ j < n then xm_i h a j else xm_i h c j := by
  show (if c = b ∧ 0 ≤ j ∧ j < 0 + n then h.2.2.1 a (0 + (j - 0)) else h.2.2.1 c j) = _
  by_cases hc : c = b ∧ j < n
  · rw [if_pos ⟨hc.1, by omega, by omega⟩, if_pos hc, Nat.zero_add, Nat.sub_zero]
    rfl
  · rw [if_neg (fun z => hc ⟨z.1, by omega⟩), if_neg hc]
    rfl
/-- rows of a standing copied so far: fields and the rows 1 to m -/
def zCp (v0 v1 m : Nat) (h h' : xm_H) : Prop := zF (fun a _ => v0 ≤ a ∧ a ≤ v0 + 7) h h' ∧ (∀ k, k < 4 → xm_i h' v0 k = xm_i h v1 k) ∧ ∀ j, 1 ≤ j → j ≤ m → ∀ i, i < (if j = 1 then 6 else 8) → xm_i h' (v0 + j) i = xm_i h (v1 + j) i
theorem zCp.s {v0 v1 m n : Nat} {h h' : xm_H} (hd : v0 + 8 ≤ v1 ∨ v1 + 8 ≤ v0) (hm : m < 7) (hn : n = if m + 1 = 1 then 6 else 8) (hc : zCp v0 v1 m h h') : zCp v0 v1 (m + 1) h (xm_cp h' (v1 + (m + 1)) 0 (v0 + (m + 1)) 0 n) := by
  obtain ⟨a1, a2, a3⟩ := hc
  refine ⟨⟨a1.1, a1.2.1, a1.2.2.1, fun a k hk => ?_⟩, fun k hk => ?_, fun j h1 h2 i hi => ?_⟩
  · rw [xi_cp, if_neg (by omega)]
    exact a1.i hk
  · rw [xi_cp, if_neg (by omega)]
    exact a2 k hk
  · rw [xi_cp]
    by_cases hj : j = m + 1
    · subst hj
      rw [if_pos ⟨rfl, by rw [hn]; exact hi⟩]
      exact a1.i (by omega)
    · rw [if_neg (by omega)]
      exact a3 j h1 (by omega) i hi
theorem zcopy {v0 v1 : Nat} {h : xm_H} (hd : v0 + 8 ≤ v1 ∨ v1 + 8 ≤ v0) (hp : zPz v1 h) : ∃ h', f_X7_copy v0 v1 h = some ((), h') ∧ zCp v0 v1 7 h h' := by
  unfold f_X7_copy
  simp only [xl]
  generalize g4 : xm_si (xm_si (xm_si (xm_si h v0 0 (xm_i h v1 0)) v0 1 (xm_i (xm_si h v0 0 (xm_i h v1 0)) v1 1)) v0 2 (xm_i (xm_si (xm_si h v0 0 (xm_i h v1 0)) v0 1 (xm_i (xm_si h v0 0 (xm_i h v1 0)) v1 1)) v1 2)) v0 3 (xm_i (xm_si (xm_si (xm_si h v0 0 (xm_i h v1 0)) v0 1 (xm_i (xm_si h v0 0 (xm_i h v1 0)) v1 1)) v0 2 (xm_i (xm_si (xm_si h v0 0 (xm_i h v1 0)) v0 1 (xm_i (xm_si h v0 0 (xm_i h v1 0)) v1 1)) v1 2)) v1 3) = h4
  have c0 : zCp v0 v1 0 h h4 := by
    rw [← g4]
    rw [xi_ne (show v1 ≠ v0 by omega), xi_ne (show v1 ≠ v0 by omega), xi_ne (show v1 ≠ v0 by omega), xi_ne (show v1 ≠ v0 by omega), xi_ne (show v1 ≠ v0 by omega), xi_ne (show v1 ≠ v0 by omega)]
    refine ⟨(((zF.si ⟨Nat.le_refl _, by omega⟩).st ⟨Nat.le_refl _, by omega⟩).st ⟨Nat.le_refl _, by omega⟩).st ⟨Nat.le_refl _, by omega⟩, fun k hk => ?_, fun j h1 h2 => by omega⟩
    match k, hk with
    | 0, _ => rw [xi_nk (by omega), xi_nk (by omega), xi_nk (by omega), xi_eq]
    | 1, _ => rw [xi_nk (by omega), xi_nk (by omega), xi_eq]
    | 2, _ => rw [xi_nk (by omega), xi_eq]
    | 3, _ => rw [xi_eq]
  have c1 := c0.s hd (by omega) rfl
  have c2 := c1.s hd (by omega) rfl
  have c3 := c2.s hd (by omega) rfl
  have c4 := c3.s hd (by omega) rfl
  have c5 := c4.s hd (by omega) rfl
  have c6 := c5.s hd (by omega) rfl
  have c7 := c6.s hd (by omega) rfl
  refine ⟨_, if_pos (fun i hi => ?_), c7⟩
  rw [Nat.zero_add]
  have e : xm_i (xm_cp (xm_cp (xm_cp (xm_cp (xm_cp (xm_cp h4 (v1 + (0 + 1)) 0 (v0 + (0 + 1)) 0 (if 0 + 1 = 1 then 6 else 8)) (v1 + (0 + 1 + 1)) 0 (v0 + (0 + 1 + 1)) 0 (if 0 + 1 + 1 = 1 then 6 else 8)) (v1 + (0 + 1 + 1 + 1)) 0 (v0 + (0 + 1 + 1 + 1)) 0 (if 0 + 1 + 1 + 1 = 1 then 6 else 8)) (v1 + (0 + 1 + 1 + 1 + 1)) 0 (v0 + (0 + 1 + 1 + 1 + 1)) 0 (if 0 + 1 + 1 + 1 + 1 = 1 then 6 else 8)) (v1 + (0 + 1 + 1 + 1 + 1 + 1)) 0 (v0 + (0 + 1 + 1 + 1 + 1 + 1)) 0 (if 0 + 1 + 1 + 1 + 1 + 1 = 1 then 6 else 8)) (v1 + (0 + 1 + 1 + 1 + 1 + 1 + 1)) 0 (v0 + (0 + 1 + 1 + 1 + 1 + 1 + 1)) 0 (if 0 + 1 + 1 + 1 + 1 + 1 + 1 = 1 then 6 else 8)) (v1 + 7) i = xm_i h (v1 + 7) i := c6.1.i (by omega)
  have e2 := hp i hi
  rw [← e] at e2
  rcases e2 with e2 | e2
  · exact (congrArg (fun z => fits (xm_ty 1) (.int z) = true) e2).mpr rfl
  · exact (congrArg (fun z => fits (xm_ty 1) (.int z) = true) e2).mpr rfl
theorem zCp.rs {v0 v1 nc nt : Nat} {S T : zV} {h h' : xm_H} (hnc : nc ≤ 8) (hnt : nt ≤ 6) (hc : zCp v0 v1 7 h h') (hR : zRS v1 nc nt S T h) : zRS v0 nc nt S T h' := by
  obtain ⟨a1, a2, a3⟩ := hc
  obtain ⟨b1, b2, b3, b4, b5, b6⟩ := hR
  refine ⟨(a2 0 (by omega)).trans b1, (a2 1 (by omega)).trans b2, (a2 2 (by omega)).trans b3, (a2 3 (by omega)).trans b4, fun t ht => (a3 1 (by omega) (by omega) t (by show t < 6; omega)).trans (b5 t ht), fun c hc => ?_⟩
  obtain ⟨d1, d2, d3, d4, d5, d6⟩ := b6 c hc
  exact ⟨(a3 2 (by omega) (by omega) c (by show c < 8; omega)).trans d1, (a3 3 (by omega) (by omega) c (by show c < 8; omega)).trans d2, (a3 4 (by omega) (by omega) c (by show c < 8; omega)).trans d3, (a3 5 (by omega) (by omega) c (by show c < 8; omega)).trans d4, (a3 6 (by omega) (by omega) c (by show c < 8; omega)).trans d5, (a3 7 (by omega) (by omega) c (by show c < 8; omega)).trans d6⟩
theorem zCp.pz {v0 v1 : Nat} {h h' : xm_H} (hc : zCp v0 v1 7 h h') (hR : zPz v1 h) : zPz v0 h' := fun i hi => by
  rw [hc.2.2 7 (by omega) (by omega) i (by show i < 8; omega)]
  exact hR i hi
/-- the class remembers -/
def zA1 (v : Nat) (a k : Nat) : Prop := (v ≤ a ∧ a ≤ v + 7) ∨ (a = 234 ∧ (k = 1 ∨ k = 2))
theorem zc_remember {la ne : Nat} {h : xm_H} (hla : la < 8) (hne : ne ≤ 8) (e1 : xm_i h 234 1 = nI la) (e2 : xm_i h 234 2 = nI ne) (hp : zPz 201 h) : ∃ h', f_X3_remember h = some ((), h') ∧ zF (zA1 (236 + 8 * ((la + 1) % 8))) h h' ∧ xm_i h' 234 1 = nI ((la + 1) % 8) ∧ xm_i h' 234 2 = nI (min (ne + 1) 8) ∧ ∃ h1, zCp (236 + 8 * ((la + 1) % 8)) 201 7 h1 h' ∧ zF (fun a k => a = 234 ∧ (k = 1 ∨ k = 2)) h h1 := by
  have hm : (nI la + 1) - (nI la + 1) / 8 * 8 = nI ((la + 1) % 8) := by
    rw [nI_1, show (8 : Int32) = nI 8 from rfl, pk_rem (by omega) (by omega) (by omega)]
  unfold f_X3_remember
  simp only [xl]
  rw [e1, hm, xi_eq]
  have h8 : (la + 1) % 8 < 8 := Nat.mod_lt _ (by omega)
  generalize (la + 1) % 8 = q at *
  rw [if_pos (zb_in h8 (by decide)), nI_clamp (by omega)]
  have hF1 : zF (fun a k => a = 234 ∧ (k = 1 ∨ k = 2)) h (xm_si h 234 1 (nI q)) := zF.si ⟨rfl, Or.inl rfl⟩
  obtain ⟨h2, c1, c2⟩ := zcopy (v0 := 236 + 8 * q) (v1 := 201) (h := xm_si h 234 1 (nI q)) (by omega) (fun i hi => by rw [xi_ne (by decide)]; exact hp i hi)
  rw [c1, xb_some]
  have hk2 : xm_i h2 234 2 = nI ne := by
    rw [c2.1.i (by omega), xi_nk (by decide)]
    exact e2
  have hmin : (if (8 : Int32) < xm_i h2 234 2 + 1 then (8 : Int32) else xm_i h2 234 2 + 1) = nI (min (ne + 1) 8) := by
    rw [hk2, nI_1]
    by_cases h9 : 8 < ne + 1
    · rw [if_pos (show (8 : Int32) < _ from nI_lt (a := 8) h9 (by omega)), Nat.min_eq_right (by omega)]
      rfl
    · rw [if_neg (show ¬ (8 : Int32) < _ from nI_nlt (a := 8) (by omega) (by omega)), Nat.min_eq_left (by omega)]
  rw [hmin]
  have hF2 : zF (zA1 (236 + 8 * q)) h (xm_si h2 234 2 (nI (min (ne + 1) 8))) := ((hF1.mono (B := zA1 (236 + 8 * q)) (fun a k z => Or.inr z)).tr (c2.1.mono (fun a k z => Or.inl z))).st (Or.inr ⟨rfl, Or.inr rfl⟩)
  refine ⟨_, rfl, hF2, ?_, xi_eq, xm_si (xm_si h 234 1 (nI q)) 234 2 (nI (min (ne + 1) 8)), ?_, hF1.st ⟨rfl, Or.inr rfl⟩⟩
  · rw [xi_nk (by decide), c2.1.i (by omega), xi_eq]
  · refine ⟨⟨c2.1.1, c2.1.2.1, c2.1.2.2.1, fun a k hk => ?_⟩, fun k hk => ?_, fun j h1 h2 i hi => ?_⟩
    · by_cases h9 : a = 234 ∧ k = 2
      · rw [h9.1, h9.2, xi_eq, xi_eq]
      · rw [xi_si, if_neg h9, c2.1.i hk, xi_si (xm_si h 234 1 (nI q)), if_neg h9]
    · rw [xi_ne (by omega), c2.2.1 k hk, xi_ne (by decide), xi_ne (by decide), xi_ne (by decide)]
    · rw [xi_ne (by omega), c2.2.2 j h1 h2 i hi, xi_ne (by omega), xi_ne (by omega), xi_ne (by omega)]
/-- the reference remembers -/
theorem zs_remember {N ne : Nat} {h : xm_H} (hN : 20000 ≤ N) (hne : ne ≤ 8) (e : xm_i h 302 3 = nI ne) : ∃ h', f_X11_remember N h = some ((), h') ∧ zF (fun a k => a = 305 ∨ (a = 302 ∧ k = 3)) h h' ∧ xm_i h' 302 3 = nI (min (ne + 1) 8) ∧ (∀ j i, j < min ne 7 → i < 2217 → xm_i h' 305 (2217 * j + i) = xm_i h 305 (2217 * (j + (ne - min ne 7)) + i)) ∧ ∀ i, i < 2217 → xm_i h' 305 (2217 * min ne 7 + i) = xm_i h 303 i := by
  -- the copy of the state
  have cp : ∀ (g : xm_H) (m : Nat), m ≤ 7 → xm_i g 302 3 = nI m → ∃ g', (∀ K, f_X11_remember_54 N K N 0 g = K g') ∧ zF (fun a _ => a = 305) g g' ∧ (∀ q, q < 2217 * m → xm_i g' 305 q = xm_i g 305 q) ∧ ∀ i, i < 2217 → xm_i g' 305 (2217 * m + i) = xm_i g 303 i := by
    intro g m hm em
    obtain ⟨mm, ⟨c1, g1⟩, ⟨a1, a2, a3, a4⟩, hE⟩ := zlpO (N := N) (F := fun n s => fun K => f_X11_remember_54 N K n s.1 s.2) (I := fun i s => s.1 = nI i ∧ zF (fun a _ => a = 305) g s.2 ∧ (∀ q, q < 2217 * m → xm_i s.2 305 q = xm_i g 305 q) ∧ ∀ i', i' < i → xm_i s.2 305 (2217 * m + i') = xm_i g 303 i') (L := 2217) (s := (0, g)) (by omega) ⟨rfl, zF.rf, fun _ _ => rfl, fun i' hi' => by omega⟩ (by
      rintro mm i ⟨c1, g1⟩ hi ⟨a1, a2, a3, a4⟩
      dsimp only at a1 a2 a3 a4 ⊢
      subst a1
      have em1 : xm_i g1 302 3 = nI m := by rw [a2.i (by omega)]; exact em
      refine ⟨(nI (i + 1), xm_si g1 305 (2217 * m + i) (xm_i g 303 i)), ⟨rfl, a2.st rfl, fun q hq => ?_, fun i' hi' => ?_⟩, ?_⟩
      · dsimp only
        rw [xi_nk (by omega)]
        exact a3 q hq
      · dsimp only
        by_cases h9 : i' = i
        · rw [h9, xi_eq]
        · rw [xi_nk (by omega)]
          exact a4 i' (by omega)
      · funext K
        show f_X11_remember_54B N K (f_X11_remember_54 N K mm) (nI i) g1 = _
        unfold f_X11_remember_54B
        have hix : (2217 : Int32) * nI m + nI i = nI (2217 * m + i) := by rw [show (2217 : Int32) = nI 2217 from rfl, pk_mul, nI_add]
        rw [if_pos (show nI i < 2217 from nI_lt (b := 2217) hi (by decide)), if_pos (zb_in hi (by decide)), em1, hix, if_pos (zb_in (by omega) (by decide)), nI_clamp (n := 2217 * m + i) (by omega), nI_clamp (n := i) (by omega), a2.i (by omega), nI_1]
        rfl)
    dsimp only at a1 a2 a3 a4
    subst a1
    refine ⟨g1, fun K => ?_, a2, a3, a4⟩
    refine (congrFun hE K).trans ?_
    show f_X11_remember_54B N K (f_X11_remember_54 N K mm) (nI 2217) g1 = _
    unfold f_X11_remember_54B
    rw [if_neg (show ¬ nI 2217 < 2217 from zlt_irr (nI 2217))]
  unfold f_X11_remember
  rw [e]
  by_cases h8 : ne = 8
  · subst h8
    rw [if_pos (show nI 8 = 8 from rfl)]
    obtain ⟨N2, ⟨c1, g1⟩, ⟨a1, a2, a3, a4⟩, hE⟩ := zlpO (N := N) (F := fun n s => fun K => f_X11_remember_13 N K n s.1 s.2) (I := fun i s => s.1 = nI (2217 + i) ∧ zF (fun a _ => a = 305) h s.2 ∧ (∀ q, q < i → xm_i s.2 305 q = xm_i h 305 (2217 + q)) ∧ ∀ q, i ≤ q → xm_i s.2 305 q = xm_i h 305 q) (L := 15519) (s := (2217, h)) (by omega) ⟨rfl, zF.rf, fun q hq => by omega, fun q hq => rfl⟩ (by
      rintro mm i ⟨c1, g1⟩ hi ⟨a1, a2, a3, a4⟩
      dsimp only at a1 a2 a3 a4 ⊢
      subst a1
      refine ⟨(nI (2217 + (i + 1)), xm_si g1 305 i (xm_i h 305 (2217 + i))), ⟨rfl, a2.st rfl, fun q hq => ?_, fun q hq => ?_⟩, ?_⟩
      · dsimp only
        by_cases h9 : q = i
        · rw [h9, xi_eq]
        · rw [xi_nk h9]
          exact a3 q (by omega)
      · dsimp only
        rw [xi_nk (by omega)]
        exact a4 q (by omega)
      · funext K
        show f_X11_remember_13B N K (f_X11_remember_13 N K mm) (nI (2217 + i)) g1 = _
        unfold f_X11_remember_13B
        have hix : nI (2217 + i) - (2217 : Int32) = nI i := by
          rw [show (2217 : Int32) = nI 2217 from rfl, pk_sub (by omega), show 2217 + i - 2217 = i by omega]
        rw [if_pos (show nI (2217 + i) < 17736 from nI_lt (b := 17736) (by omega) (by decide)), if_pos (zb_in (by omega) (by decide)), hix, if_pos (zb_in (by omega) (by decide)), nI_clamp (n := i) (by omega), nI_clamp (n := 2217 + i) (by omega), a4 (2217 + i) (by omega), nI_1]
        rfl)
    dsimp only at a1 a2 a3 a4
    subst a1
    have hE2 : ∀ K, f_X11_remember_13 N K N 2217 h = K g1 := fun K => by
      refine (congrFun hE K).trans ?_
      show f_X11_remember_13B N K (f_X11_remember_13 N K N2) (nI 17736) g1 = _
      unfold f_X11_remember_13B
      rw [if_neg (show ¬ nI 17736 < 17736 from zlt_irr (nI 17736))]
    rw [hE2]
    simp only [xl]
    have em1 : xm_i g1 302 3 = nI 8 := by rw [a2.i (by omega)]; exact e
    rw [em1, show nI 8 - (1 : Int32) = nI 7 from rfl]
    obtain ⟨g2, d1, d2, d3, d4⟩ := cp (xm_si g1 302 3 (nI 7)) 7 (by omega) xi_eq
    rw [d1]
    have hF : zF (fun a k => a = 305 ∨ (a = 302 ∧ k = 3)) h g2 := ((a2.mono (B := fun a k => a = 305 ∨ (a = 302 ∧ k = 3)) (fun a k z => Or.inl z)).st (Or.inr ⟨rfl, rfl⟩)).tr (d2.mono (fun a k z => Or.inl z))
    have em2 : xm_i g2 302 3 = nI 7 := by rw [d2.i (by omega), xi_eq]
    refine ⟨_, rfl, hF.st (Or.inr ⟨rfl, rfl⟩), by rw [xi_eq, em2, nI_1, show min (8 + 1) 8 = 7 + 1 by decide], fun j i hj hi => ?_, fun i hi => ?_⟩
    · rw [show min 8 7 = 7 by decide] at hj ⊢
      rw [xi_ne (by decide), d3 _ (by omega), xi_ne (by decide), a3 _ (by omega), show 2217 * (j + (8 - 7)) + i = 2217 + (2217 * j + i) by omega]
    · rw [xi_ne (by decide), show min 8 7 = 7 by decide, d4 i hi, xi_ne (by decide), a2.i (by omega)]
  · rw [if_neg (show ¬ nI ne = 8 from fun z => h8 ((nI_eq (b := 8) (by omega) (by omega)).mp z))]
    obtain ⟨g2, d1, d2, d3, d4⟩ := cp h ne (by omega) e
    rw [d1]
    simp only [xl]
    have em2 : xm_i g2 302 3 = nI ne := by rw [d2.i (by omega)]; exact e
    refine ⟨_, rfl, (d2.mono (B := fun a k => a = 305 ∨ (a = 302 ∧ k = 3)) (fun a k z => Or.inl z)).st (Or.inr ⟨rfl, rfl⟩), by rw [xi_eq, em2, nI_1, Nat.min_eq_left (by omega)], fun j i hj hi => ?_, fun i hi => ?_⟩
    · rw [xi_ne (by decide), d3 _ (by omega), Nat.min_eq_left (by omega), Nat.sub_self, Nat.add_zero]
    · rw [xi_ne (by decide), Nat.min_eq_left (by omega)]
      exact d4 i hi
