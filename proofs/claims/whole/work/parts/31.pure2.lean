/-! lists in strict order; the least bid that wins; the floor that earns the most -/
def zBf (e : Nat → Int32) (x y : Nat) : Prop := e y < e x ∨ (e x = e y ∧ x < y)
theorem zBf_as {e : Nat → Int32} {x y : Nat} (h1 : zBf e x y) (h2 : zBf e y x) : False := by
  unfold zBf at *
  rw [Int32.lt_iff_toInt_lt, ← Int32.toInt_inj] at *
  omega
theorem zBf_tr {e : Nat → Int32} {x y z : Nat} (h1 : zBf e x y) (h2 : zBf e y z) : zBf e x z := by
  unfold zBf at *
  rw [Int32.lt_iff_toInt_lt, ← Int32.toInt_inj] at *
  omega
theorem zBf_tot {e : Nat → Int32} {x y : Nat} (h : x ≠ y) : zBf e x y ∨ zBf e y x := by
  unfold zBf
  simp only [Int32.lt_iff_toInt_lt, ← Int32.toInt_inj]
  omega
theorem zBf_irr {e : Nat → Int32} {x : Nat} : ¬ zBf e x x := fun h => zBf_as h h
theorem zRk_str (e : Nat → Int32) (P : Nat → Bool) : ∀ n, (zRk e P n).Pairwise (zBf e) := by
  intro n
  induction n with
  | zero => exact List.Pairwise.nil
  | succ n ih =>
    unfold zRk
    split
    · have hlt : ∀ y ∈ zRk e P n, y < n := fun y hy => (zRk_mem.mp hy).1
      unfold zIns
      rw [List.pairwise_append]
      refine ⟨List.Pairwise.filter _ ih, ?_, ?_⟩
      · rw [List.pairwise_cons]
        refine ⟨fun z hz => Or.inl (of_decide_eq_true (List.mem_filter.mp hz).2), List.Pairwise.filter _ ih⟩
      · intro a ha b hb
        have h1 := (List.mem_filter.mp ha)
        have h2 : ¬ e a < e n := by simpa using h1.2
        have h3 := hlt a h1.1
        rcases List.mem_cons.mp hb with rfl | hb
        · unfold zBf
          rw [Int32.lt_iff_toInt_lt, ← Int32.toInt_inj] at *
          omega
        · have h4 : e b < e n := of_decide_eq_true (List.mem_filter.mp hb).2
          left
          rw [Int32.lt_iff_toInt_lt] at *
          omega
    · exact ih
theorem zuniq {r : Nat → Nat → Prop} (has : ∀ x y, r x y → r y x → False) : ∀ {l1 l2 : List Nat}, l1.Pairwise r → l2.Pairwise r → (∀ x, x ∈ l1 ↔ x ∈ l2) → l1 = l2 := by
  intro l1
  induction l1 with
  | nil =>
    intro l2 _ _ hm
    cases l2 with
    | nil => rfl
    | cons y l2 => exact absurd ((hm y).mpr (List.mem_cons_self)) (by simp)
  | cons x l1 ih =>
    intro l2 h1 h2 hm
    cases l2 with
    | nil => exact absurd ((hm x).mp (List.mem_cons_self)) (by simp)
    | cons y l2 =>
      have p1 := List.pairwise_cons.mp h1
      have p2 := List.pairwise_cons.mp h2
      have hxy : x = y := by
        rcases List.mem_cons.mp ((hm x).mp List.mem_cons_self) with h | h
        · exact h
        · rcases List.mem_cons.mp ((hm y).mpr List.mem_cons_self) with h' | h'
          · exact h'.symm
          · exact (has x y (p1.1 y h') (p2.1 x h)).elim
      subst hxy
      have hx1 : x ∉ l1 := fun z => has x x (p1.1 x z) (p1.1 x z)
      have hx2 : x ∉ l2 := fun z => has x x (p2.1 x z) (p2.1 x z)
      congr 1
      refine ih p1.2 p2.2 (fun z => ?_)
      constructor
      · intro hz
        rcases List.mem_cons.mp ((hm z).mp (List.mem_cons_of_mem _ hz)) with h | h
        · exact absurd (h ▸ hz) hx1
        · exact h
      · intro hz
        rcases List.mem_cons.mp ((hm z).mpr (List.mem_cons_of_mem _ hz)) with h | h
        · exact absurd (h ▸ hz) hx2
        · exact h
/-- filling, in pieces -/
theorem zFl_app {ap : Nat → Nat → Bool} {k : Nat} : ∀ {l1 l2 : List Nat} {p : Nat} {W : List (Nat × Nat)}, zFl ap k (l1 ++ l2) p W = zFl ap k l2 (p + l1.length) (zFl ap k l1 p W) := by
  intro l1
  induction l1 with
  | nil => intro l2 p W; rfl
  | cons c l1 ih =>
    intro l2 p W
    rw [List.cons_append, List.length_cons]
    by_cases h : W.length < k
    · conv => lhs; unfold zFl
      conv => rhs; rhs; unfold zFl
      rw [if_pos h, if_pos h]
      split
      · rw [ih, show p + 1 + l1.length = p + (l1.length + 1) by omega]
      · rw [ih, show p + 1 + l1.length = p + (l1.length + 1) by omega]
    · rw [zFl_full (by omega), zFl_full (l := c :: l1) (by omega), zFl_full (by omega)]
theorem zFl_pre {ap : Nat → Nat → Bool} {k : Nat} : ∀ {l : List Nat} {p : Nat} {W : List (Nat × Nat)}, ∃ V, zFl ap k l p W = W ++ V ∧ ∀ v ∈ V, v.2 ∈ l := by
  intro l
  induction l with
  | nil => intro p W; exact ⟨[], by simp [zFl], by simp⟩
  | cons c l ih =>
    intro p W
    unfold zFl
    split
    · split
      · obtain ⟨V, h1, h2⟩ := @ih (p + 1) W
        exact ⟨V, h1, fun v hv => List.mem_cons_of_mem _ (h2 v hv)⟩
      · obtain ⟨V, h1, h2⟩ := @ih (p + 1) (W ++ [(p, c)])
        refine ⟨(p, c) :: V, by rw [h1]; simp, fun v hv => ?_⟩
        rcases List.mem_cons.mp hv with rfl | hv
        · exact List.mem_cons_self
        · exact List.mem_cons_of_mem _ (h2 v hv)
    · exact ⟨[], by simp, by simp⟩
/-- whether c, that is in none of the two lists, wins between them -/
theorem zFl_win {ap : Nat → Nat → Bool} {k c : Nat} {A B : List Nat} (hA : c ∉ A) (hB : c ∉ B) : ((zFl ap k (A ++ c :: B) 0 []).any fun w => decide (w.2 = c)) = true ↔ (zFl ap k A 0 []).length < k ∧ ((zFl ap k A 0 []).any fun w => ap c w.2) = false := by
  rw [zFl_app]
  obtain ⟨V, hV1, hV2⟩ := @zFl_pre ap k A 0 []
  rw [List.nil_append] at hV1
  rw [hV1]
  have hno : (V.any fun w => decide (w.2 = c)) = false := by
    rw [List.any_eq_false]
    intro w hw
    have := hV2 w hw
    simp
    rintro rfl
    exact hA this
  unfold zFl
  by_cases h1 : V.length < k
  · rw [if_pos h1]
    by_cases h2 : (V.any fun w => ap c w.2) = true
    · rw [if_pos h2]
      obtain ⟨U, hU1, hU2⟩ := @zFl_pre ap k B (0 + A.length + 1) V
      rw [hU1, List.any_append, hno, Bool.false_or, List.any_eq_true]
      constructor
      · rintro ⟨w, hw, hw2⟩
        have := hU2 w hw
        rw [of_decide_eq_true hw2] at this
        exact (hB this).elim
      · rintro ⟨_, h3⟩
        rw [h3] at h2
        cases h2
    · rw [if_neg h2]
      obtain ⟨U, hU1, hU2⟩ := @zFl_pre ap k B (0 + A.length + 1) (V ++ [(0 + A.length, c)])
      rw [hU1, List.any_append, List.any_append]
      simp [h1]
      intro a b hab
      have h3 : (V.any fun w => ap c w.2) = false := by simpa using h2
      rw [List.any_eq_false] at h3
      have := h3 (a, b) hab
      simpa using this
  · rw [if_neg h1, hno]
    simp
    intro h
    exact absurd h h1
/-- the least effective bid with which c stands ahead of the first rival that shuts it out -/
def zLp (ap : Nat → Nat → Bool) (k c : Nat) (e : Nat → Int32) : List Nat → List Nat → Int32
  | [], _ => 1
  | r :: l, W => if r = c ∨ (W.any fun w => ap r w) = true then zLp ap k c e l W else if W.length + 1 = k ∨ ap r c = true then (if c < r then e r else e r + 1) else zLp ap k c e l (W ++ [r])
theorem zLp_skip {ap : Nat → Nat → Bool} {k c : Nat} {e : Nat → Int32} : ∀ {l W : List Nat}, zLp ap k c e l W = zLp ap k c e (l.filter fun x => decide (x ≠ c)) W := by
  intro l
  induction l with
  | nil => intro W; rfl
  | cons r l ih =>
    intro W
    by_cases h : r = c
    · rw [List.filter_cons_of_neg (by simp [h])]
      rw [← ih]
      conv => lhs; unfold zLp
      rw [if_pos (Or.inl h)]
    · rw [List.filter_cons_of_pos (by simp [h])]
      unfold zLp
      rw [← ih, ← ih]
theorem zLp_after {ap : Nat → Nat → Bool} {k c : Nat} {e : Nat → Int32} {E : Nat} (hE : 1 ≤ E) (hE2 : E ≤ 20000) : ∀ {l W : List Nat}, c ∉ l → (∀ x ∈ l, ∃ q, q ≤ 999 ∧ e x = nI q ∧ (q < E ∨ (q = E ∧ c < x))) → ¬ nI E < zLp ap k c e l W := by
  intro l
  induction l with
  | nil => intro W _ _; exact nI_nlt (b := 1) hE (by omega)
  | cons r l ih =>
    intro W hc hx
    unfold zLp
    split
    · exact ih (fun z => hc (List.mem_cons_of_mem _ z)) (fun x h => hx x (List.mem_cons_of_mem _ h))
    · split
      · obtain ⟨q, q1, q2, q3⟩ := hx r List.mem_cons_self
        split
        · rw [q2]
          exact nI_nlt (by omega) (by omega)
        · rw [q2, nI_1]
          exact nI_nlt (by omega) (by omega)
      · exact ih (fun z => hc (List.mem_cons_of_mem _ z)) (fun x h => hx x (List.mem_cons_of_mem _ h))
/-- winners so far, as numbers alone -/
def zFn (ap : Nat → Nat → Bool) (k : Nat) : List Nat → List Nat → List Nat
  | [], W => W
  | c :: l, W => if W.length < k then (if (W.any fun w => ap c w) = true then zFn ap k l W else zFn ap k l (W ++ [c])) else W
theorem zFl_n {ap : Nat → Nat → Bool} {k : Nat} : ∀ {l : List Nat} {p : Nat} {W : List (Nat × Nat)}, (zFl ap k l p W).map (fun w => w.2) = zFn ap k l (W.map fun w => w.2) := by
  intro l
  induction l with
  | nil => intro p W; rfl
  | cons c l ih =>
    intro p W
    unfold zFl zFn
    rw [List.length_map, List.any_map]
    by_cases h : W.length < k
    · rw [if_pos h, if_pos h]
      by_cases h2 : (W.any fun w => ap c w.2) = true
      · rw [if_pos h2, if_pos (show (W.any ((fun w => ap c w) ∘ fun w => w.2)) = true from h2)]
        exact ih
      · rw [if_neg h2, if_neg (show ¬ (W.any ((fun w => ap c w) ∘ fun w => w.2)) = true from h2), ih, List.map_append]
        rfl
    · rw [if_neg h, if_neg h]
theorem zFn_pre {ap : Nat → Nat → Bool} {k : Nat} : ∀ {l : List Nat} {W : List Nat}, ∃ V, zFn ap k l W = W ++ V := by
  intro l
  induction l with
  | nil => intro W; exact ⟨[], by simp [zFn]⟩
  | cons c l ih =>
    intro W
    unfold zFn
    split
    · split
      · exact ih
      · obtain ⟨V, h1⟩ := @ih (W ++ [c])
        exact ⟨c :: V, by rw [h1]; simp⟩
    · exact ⟨[], by simp⟩
/-- the heart: c wins at E just if E is not smaller than what is needed -/
theorem zLp_win {ap : Nat → Nat → Bool} {k c : Nat} {e : Nat → Int32} {E : Nat} (hsy : ∀ x y, ap x y = ap y x) (hE : 1 ≤ E) (hE2 : E ≤ 20000) : ∀ {l W : List Nat}, l.Pairwise (zBf e) → c ∉ l → (∀ x ∈ l, ∃ q, q ≤ 999 ∧ e x = nI q) → W.length < k → (W.any fun w => ap c w) = false → (((zFn ap k (l.filter fun x => decide (nI E < e x ∨ (e x = nI E ∧ x < c))) W).length < k ∧ ((zFn ap k (l.filter fun x => decide (nI E < e x ∨ (e x = nI E ∧ x < c))) W).any fun w => ap c w) = false) ↔ ¬ nI E < zLp ap k c e l W) := by
  intro l
  induction l with
  | nil =>
    intro W _ _ _ hk ha
    constructor
    · intro _
      exact nI_nlt (b := 1) hE (by omega)
    · intro _
      exact ⟨hk, ha⟩
  | cons r l ih =>
    intro W hs hc hq hk ha
    have hs2 := List.pairwise_cons.mp hs
    have hc1 : c ≠ r := fun z => hc (z ▸ List.mem_cons_self)
    have hc2 : c ∉ l := fun z => hc (List.mem_cons_of_mem _ z)
    have hq2 := fun x (h : x ∈ l) => hq x (List.mem_cons_of_mem _ h)
    obtain ⟨q, q1, q2⟩ := hq r List.mem_cons_self
    by_cases hb : nI E < e r ∨ (e r = nI E ∧ r < c)
    · have hb' : E < q ∨ (q = E ∧ r < c) := by
        rw [q2, nI_ltI (by omega) (by omega), nI_eq (by omega) (by omega)] at hb
        exact hb
      rw [List.filter_cons_of_pos (by simp only [decide_eq_true_eq]; exact hb)]
      unfold zFn zLp
      rw [if_pos hk]
      by_cases h2 : (W.any fun w => ap r w) = true
      · rw [if_pos h2, if_pos (Or.inr h2)]
        exact ih hs2.2 hc2 hq2 hk ha
      · rw [if_neg h2, if_neg (fun z => z.elim (fun w => hc1 w.symm) h2)]
        by_cases h3 : W.length + 1 = k ∨ ap r c = true
        · rw [if_pos h3]
          obtain ⟨V, hV⟩ := @zFn_pre ap k (l.filter fun x => decide (nI E < e x ∨ (e x = nI E ∧ x < c))) (W ++ [r])
          rw [hV]
          constructor
          · rintro ⟨g1, g2⟩
            exfalso
            rcases h3 with h3 | h3
            · rw [List.length_append, List.length_append] at g1
              simp at g1
              omega
            · rw [List.any_eq_false] at g2
              exact g2 r (by simp) (by rw [hsy]; exact h3)
          · intro hn
            exfalso
            apply hn
            split
            · rw [q2]
              exact nI_lt (by omega) (by omega)
            · rw [q2, nI_1]
              exact nI_lt (by omega) (by omega)
        · rw [if_neg h3]
          have h3' := not_or.mp h3
          refine ih hs2.2 hc2 hq2 ?_ ?_
          · rw [List.length_append]
            simp
            omega
          · rw [List.any_append, ha]
            simp
            rw [hsy]
            simpa using h3'.2
    · have hb' : q < E ∨ (q = E ∧ c < r) := by
        rw [q2, nI_ltI (by omega) (by omega), nI_eq (by omega) (by omega)] at hb
        omega
      have hall : ∀ x ∈ r :: l, ∃ q, q ≤ 999 ∧ e x = nI q ∧ (q < E ∨ (q = E ∧ c < x)) := by
        intro x hx
        rcases List.mem_cons.mp hx with rfl | hx
        · exact ⟨q, q1, q2, hb'⟩
        · obtain ⟨y, y1, y2⟩ := hq2 x hx
          refine ⟨y, y1, y2, ?_⟩
          have := hs2.1 x hx
          unfold zBf at this
          rw [q2, y2, nI_ltI (by omega) (by omega), nI_eq (by omega) (by omega)] at this
          omega
      have hnil : (r :: l).filter (fun x => decide (nI E < e x ∨ (e x = nI E ∧ x < c))) = [] := by
        rw [List.filter_eq_nil_iff]
        intro x hx
        obtain ⟨y, y1, y2, y3⟩ := hall x hx
        rw [y2, decide_eq_true_eq, nI_ltI (by omega) (by omega), nI_eq (by omega) (by omega)]
        omega
      rw [hnil]
      constructor
      · intro _
        exact zLp_after hE hE2 hc hall
      · intro _
        exact ⟨hk, ha⟩
/-- numbers: the least bid with a share of at least d -/
theorem zbid {m d b : Nat} (hm : 1 ≤ m) (hd : 1 ≤ d) : d ≤ (b * m + 99) / 100 ↔ (d - 1) * 100 / m + 1 ≤ b := by
  rw [Nat.le_div_iff_mul_le (by omega), Nat.succ_le_iff, Nat.div_lt_iff_lt_mul (by omega)]
  omega
/-- the floor that earns the most -/
theorem zhalf {E : Nat → Nat} {M en : Nat} (hup : ∀ f g, f ≤ g → g ≤ en → M ≤ E f → M ≤ E g) : ∀ (n lo hi : Nat), lo ≤ hi → hi ≤ en → hi - lo < 2 ^ n → M ≤ E hi → (∀ f, f < lo → E f < M) → ∃ r, (∀ f, f < r → E f < M) ∧ M ≤ E r ∧ r ≤ hi := by
  intro n
  induction n with
  | zero =>
    intro lo hi h1 h2 h3 h4 h5
    have : lo = hi := by simp at h3; omega
    subst this
    exact ⟨lo, h5, h4, Nat.le_refl _⟩
  | succ n ih =>
    intro lo hi h1 h2 h3 h4 h5
    by_cases h : lo = hi
    · subst h
      exact ⟨lo, h5, h4, Nat.le_refl _⟩
    rw [Nat.pow_succ] at h3
    by_cases hm : M ≤ E ((lo + hi) / 2)
    · obtain ⟨r, r1, r2, r3⟩ := ih lo ((lo + hi) / 2) (by omega) (by omega) (by omega) hm h5
      exact ⟨r, r1, r2, by omega⟩
    · refine ih ((lo + hi) / 2 + 1) hi (by omega) h2 (by omega) h4 (fun f hf => ?_)
      rcases Nat.lt_or_ge (E f) M with h6 | h6
      · exact h6
      · exact absurd (hup f ((lo + hi) / 2) (by omega) (by omega) h6) hm
