/-! the start: the law's first invariant -/
set_option maxRecDepth 100000 in
theorem cs_k : ∀ j : Fin 158, cs28.1[j.1]? = some (xKD (160 + j.1)) := by decide +kernel
set_option maxRecDepth 100000 in
theorem cs_r : ∀ j : Fin 158, ∀ k : Fin 32, xRD (160 + j.1) k.1 = none ∨ cRf cs28 (160 + j.1) k.1 = xRD (160 + j.1) k.1 := by decide +kernel
set_option maxRecDepth 100000 in
theorem cs_l : ∀ l ∈ [] :: xRDl, l.length ≤ 32 := by decide +kernel
set_option maxRecDepth 100000 in
theorem cs_len : cs28.1.length = 158 := by decide +kernel
set_option maxRecDepth 100000 in
theorem cs_q : cRf cs28 182 0 = some 183 ∧ cRf cs28 161 3 = some 164 ∧ cRf cs28 300 0 = some 301 ∧ cs28.1[141]? = some (102, 16) := by decide +kernel
set_option maxRecDepth 100000 in
theorem cs_i : cIn cs28 308 14 = 0 ∧ cIn cs28 308 7 = 0 ∧ cIn cs28 308 2 = 1 ∧ cIn cs28 308 63 = 0 ∧ cIn cs28 308 0 = 100 ∧ cIn cs28 308 1 = 50 ∧ cIn cs28 308 3 = 100 ∧ cIn cs28 183 0 = 100 ∧ cIn cs28 183 1 = 50 ∧ cIn cs28 183 3 = 1 ∧ cIn cs28 183 5 = 0 ∧ cIn cs28 183 7 = 0 ∧ cIn cs28 184 0 = 100 := by decide +kernel
set_option maxRecDepth 100000 in
theorem cs_j : cIn cs28 303 0 = 0 ∧ cIn cs28 303 1 = 0 ∧ cIn cs28 303 2 = 0 ∧ cIn cs28 201 0 = 0 ∧ cIn cs28 201 1 = 0 ∧ cIn cs28 201 2 = 0 ∧ cIn cs28 201 3 = 0 ∧ cIn cs28 302 3 = 0 ∧ cIn cs28 234 2 = 0 ∧ cIn cs28 234 1 = 0 ∧ cIn cs28 162 1 = 0 ∧ cIn cs28 302 6 = 0 ∧ cIn cs28 161 4 = 0 ∧ cIn cs28 302 7 = 0 ∧ cIn cs28 161 5 = -1 ∧ cIn cs28 302 8 = -1 ∧ cIn cs28 300 1 = 0 ∧ cIn cs28 300 3 = 0 ∧ cIn cs28 302 30 = 0 := by decide +kernel
/-- rows that nobody wrote -/
theorem cs_0 {a k : Nat} (ha : cs28.2.2.all (fun t => !(t.1 == a)) = true) : cIn cs28 a k = 0 := by
  unfold cIn
  have : cs28.2.2.find? (fun t => t.1 == a && t.2.1 == k) = none := by
    rw [List.find?_eq_none]
    intro t ht
    have h1 := List.all_eq_true.mp ha t ht
    simp at h1 ⊢
    intro z
    exact absurd z h1
  rw [this]
set_option maxRecDepth 100000 in
theorem cs_w : cs28.2.2.all (fun t => !(t.1 == 208)) = true ∧ cs28.2.2.all (fun t => !(t.1 == 163)) = true ∧ cs28.2.2.all (fun t => !(t.1 == 306)) = true ∧ cs28.2.2.all (fun t => !(t.1 == 301)) = true := by decide +kernel
section Fin0
variable {L : Nat} {xs : zV} {h : xm_H}
theorem cs_inv (R : cRel (xhc L xs) cs28 h) : zI L xs h ∧ xm_n h = 318 := by
  obtain ⟨r1, r2, r3, r4, r5, r6⟩ := R
  have hn : xm_n h = 318 := by rw [r1, cs_len]
  have gi : ∀ a k, 160 ≤ a → a < 318 → xm_i h a k = cIn cs28 a k := fun a k h1 h2 => (r4 a k h1 (by omega)).2.1
  have gr : ∀ a k, 160 ≤ a → a < 318 → xm_r h a k = cRf cs28 a k := fun a k h1 h2 => (r4 a k h1 (by omega)).1
  have gk : ∀ i, 160 ≤ i → i < 318 → xm_k h i = xKD i := fun i h1 h2 => by
    have e := cs_k ⟨i - 160, by omega⟩
    dsimp only at e
    have := r3 _ _ e
    rw [show 160 + (i - 160) = i by omega] at this
    exact this
  obtain ⟨i1, i2, i3, i4, i5, i6, i7, i8, i9, i10, i11, i12, i13⟩ := cs_i
  obtain ⟨j1, j2, j3, j4, j5, j6, j7, j8, j9, j10, j11, j12, j13, j14, j15, j16, j17, j18, j19⟩ := cs_j
  obtain ⟨q1, q2, q3, q4⟩ := cs_q
  obtain ⟨w1, w2, w3, w4⟩ := cs_w
  refine ⟨⟨183, 164, 0, 0, 1, 0, 0, 0, 0, 0, 0, 301, 0, 16, ?_, by decide, ?_, ?_, ?_, ?_, fun c hc => by omega, ?_⟩, hn⟩
  · refine ⟨⟨by omega, gk, fun a k b hb => ?_⟩, Or.inr rfl, Or.inl rfl, (gr _ _ (by omega) (by omega)).trans q1, (gr _ _ (by omega) (by omega)).trans q2⟩
    have hk : k < 32 := by
      rcases Nat.lt_or_ge k 32 with z | z
      · exact z
      · exfalso
        unfold xRD at hb
        have hl : (([] :: xRDl).getD (a - 159) []).length ≤ 32 := by
          rw [List.getD_eq_getElem?_getD]
          cases hq : ([] :: xRDl)[a - 159]? with
          | none => exact Nat.zero_le _
          | some l => exact cs_l l (List.mem_of_getElem? hq)
        rw [List.getD_eq_getElem?_getD (l := ([] :: xRDl).getD (a - 159) []), List.getElem?_eq_none (by omega)] at hb
        cases hb
    have ha : 160 ≤ a ∧ a < 318 := by
      unfold xRD at hb
      constructor
      · rcases Nat.lt_or_ge a 160 with z | z
        · exfalso
          rw [show a - 159 = 0 by omega] at hb
          cases hb
        · exact z
      · rcases Nat.lt_or_ge a 318 with z | z
        · exact z
        · exfalso
          have e9 : ([] :: xRDl).getD (a - 159) [] = [] := by
            rw [List.getD_eq_getElem?_getD, List.getElem?_eq_none (by rw [List.length_cons, xRDl_len]; omega)]
            rfl
          rw [e9] at hb
          cases hb
    have e := cs_r ⟨a - 160, by omega⟩ ⟨k, hk⟩
    dsimp only at e
    rw [show 160 + (a - 160) = a by omega] at e
    rw [gr a k ha.1 ha.2]
    rcases e with e | e
    · rw [e] at hb
      cases hb
    · rw [e]
      exact hb
  · intro a ha
    obtain ⟨c1, c2⟩ := r2 a ha
    exact ⟨c1, c2⟩
  · refine ⟨Or.inr rfl, ⟨by omega, by omega, by omega, by omega, by omega, ?_, ?_, ?_, ?_, ?_, ?_, fun k hk => ?_, fun c hc => by omega⟩, ⟨?_, ?_, ?_, ?_, ?_, fun k hk => ?_, fun c hc => by omega⟩, ⟨⟨by omega, by omega, ?_, ?_, ?_, fun c hc => by omega, fun t ht => by omega, fun k hk => by omega⟩, fun k hk => by omega, by omega, ?_, ⟨?_, ?_, ?_, ?_, fun t ht => by omega, fun c hc => by omega⟩, fun i hi => ?_, fun k hk => by omega, fun k hk => by omega⟩, by omega, by omega, ?_, ?_, ?_, fun j hj => by omega⟩
    · rw [gi _ _ (by omega) (by omega), i1]
      rfl
    · rw [gi _ _ (by omega) (by omega), i2]
      rfl
    · rw [gi _ _ (by omega) (by omega), i3]
      rfl
    · rw [gi _ _ (by omega) (by omega), i4]
      rfl
    · rw [gi _ _ (by omega) (by omega), i5]
      exact ⟨100, by omega, by omega, rfl⟩
    · rw [gi _ _ (by omega) (by omega), i6]
      exact ⟨50, by omega, by omega, rfl⟩
    · have : k = 0 := by omega
      subst this
      rw [gi _ _ (by omega) (by omega), i7]
      exact ⟨100, by omega, by omega, rfl⟩
    · rw [gi _ _ (by omega) (by omega), gi _ _ (by omega) (by omega), i8, i5]
    · rw [gi _ _ (by omega) (by omega), gi _ _ (by omega) (by omega), i9, i6]
    · rw [gi _ _ (by omega) (by omega), gi _ _ (by omega) (by omega), i10, i3]
    · rw [gi _ _ (by omega) (by omega), gi _ _ (by omega) (by omega), i11, i2]
    · rw [gi _ _ (by omega) (by omega), gi _ _ (by omega) (by omega), i12, i1]
    · have : k = 0 := by omega
      subst this
      rw [gi _ _ (by omega) (by omega), gi _ _ (by omega) (by omega), i13, i7]
    · rw [gi _ _ (by omega) (by omega), j1]
      exact ⟨0, by omega, by omega, rfl⟩
    · rw [gi _ _ (by omega) (by omega), j2]
      rfl
    · rw [gi _ _ (by omega) (by omega), j3]
      rfl
    · rw [gi _ _ (by omega) (by omega), j1]
      exact ⟨0, by omega, by omega, rfl⟩
    · rw [gi _ _ (by omega) (by omega), gi _ _ (by omega) (by omega), j4, j1]
    · rw [gi 201 1 (by omega) (by omega), gi 303 0 (by omega) (by omega), gi 308 0 (by omega) (by omega), j5, j1, i5]
      decide
    · rw [gi _ _ (by omega) (by omega), gi _ _ (by omega) (by omega), j6, j2]
    · rw [gi _ _ (by omega) (by omega), gi _ _ (by omega) (by omega), j7, j3]
    · left
      rw [gi _ _ (by omega) (by omega)]
      exact cs_0 w1
    · rw [gi _ _ (by omega) (by omega), j8]
      rfl
    · rw [gi _ _ (by omega) (by omega), j9]
      rfl
    · rw [gi _ _ (by omega) (by omega), j10]
      rfl
  · refine ⟨by omega, ?_, ?_, fun i hi => ?_⟩
    · rw [gi _ _ (by omega) (by omega), j11]
      rfl
    · rw [gi _ _ (by omega) (by omega), j12]
      rfl
    · rw [gi _ _ (by omega) (by omega), gi _ _ (by omega) (by omega), cs_0 w2, cs_0 w3]
      exact ⟨rfl, 0, by omega, by omega, rfl⟩
  · exact ⟨by rw [gi _ _ (by omega) (by omega), gi _ _ (by omega) (by omega), j13, j14], by rw [gi _ _ (by omega) (by omega), gi _ _ (by omega) (by omega), j15, j16]⟩
  · refine ⟨by omega, by omega, by omega, by omega, Or.inl rfl, (gr _ _ (by omega) (by omega)).trans q3, r3 141 _ q4, ?_, ?_, ?_, fun i hi => by omega, fun i hi => ?_⟩
    · rw [gi _ _ (by omega) (by omega), j17]
    · rw [gi _ _ (by omega) (by omega), j18]
      rfl
    · rw [gi _ _ (by omega) (by omega), j19]
      rfl
    · rw [gi _ _ (by omega) (by omega), cs_0 w4]
      exact ⟨0, by omega, by omega, rfl⟩
end Fin0
theorem cs_sum {f : Nat → Nat} {B : Nat} : ∀ l : List Nat, (∀ x ∈ l, f x ≤ B) → (l.map f).sum ≤ l.length * B := by
  intro l
  induction l with
  | nil => intro _; exact Nat.zero_le _
  | cons x l ih =>
    intro h
    have h1 := h x List.mem_cons_self
    have h2 := ih (fun y hy => h y (List.mem_cons_of_mem _ hy))
    rw [List.map_cons, List.sum_cons, List.length_cons, Nat.succ_mul]
    omega
set_option maxRecDepth 100000 in
theorem cs_s : ((List.range 158).map fun i => xm_ks (xKD (160 + i))).sum ≤ 60000 := by decide +kernel
theorem cs_sz {L : Nat} {xs : zV} {h : xm_H} (hL : L ≤ 3072) (R : cRel (xhc L xs) cs28 h) : xm_sz h ≤ 600000 := by
  obtain ⟨r1, r2, r3, r4, r5, r6⟩ := R
  have hn : xm_n h = 160 + 158 := by rw [r1, cs_len]
  have hk : ∀ a, a < 160 → xm_ks (xm_k h a) ≤ 3072 := fun a ha => by
    rw [(r2 a ha).1]
    show xm_ks (xhk L a) ≤ 3072
    unfold xhk
    have h12 := zks12
    split
    · exact hL
    · split
      · show 100 ≤ 3072
        omega
      · split
        · split
          · omega
          · have := (zKw_l ((a - 4) / 2)).1
            unfold zKw at this
            rw [List.length_map] at this
            show (xstb.getD ((a - 4) / 2) []).length ≤ 3072
            omega
        · show 0 ≤ 3072
          omega
  unfold xm_sz
  rw [hn, List.range_add, List.map_append, List.sum_append]
  have s1 := cs_sum (f := fun i => xm_ks (xm_k h i)) (B := 3072) (List.range 160) (fun x hx => hk x (List.mem_range.mp hx))
  rw [List.length_range] at s1
  have s2 : (List.map (fun i => xm_ks (xm_k h i)) (List.map (fun x => 160 + x) (List.range 158))) = (List.range 158).map fun i => xm_ks (xKD (160 + i)) := by
    rw [List.map_map]
    apply List.map_congr_left
    intro i hi
    have hi := List.mem_range.mp hi
    have e := cs_k ⟨i, hi⟩
    show xm_ks (xm_k h (160 + i)) = _
    rw [r3 _ _ e]
  rw [s2]
  have s3 := cs_s
  omega
theorem law_60 : xm_law 60 := by
  intro L xs hL
  obtain ⟨h, R, k⟩ := cs_run (L := L) (xs := xs)
  obtain ⟨hI, hn⟩ := cs_inv R
  have hz := cs_sz hL R
  obtain ⟨w, a1, a2, a3⟩ := law_loop (N := 20000) (by omega) hL 512 600 0 h (by omega) (by omega) (by omega) hI
  have a1 : f_L_law_28 20000 600 0 h = some (1, w) := a1
  obtain ⟨ρ, δ, nc, nt, nf, na, n, nv, ne, la, nb, bo, no, cap, hI⟩ := hI
  refine k _ (tl_L_law (w := (1, w)) (fun _ => ⟨rfl, ?_, ?_⟩) 600 0 h ⟨ρ, δ, hI.1⟩ a1)
  · show xm_n w ≤ 600000
    omega
  · show xm_sz w ≤ 7290000
    omega
