/-! lists: the ranking by insertion, the filling of slots -/
def zIns (e : Nat → Int32) (l : List Nat) (c : Nat) : List Nat := l.filter (fun y => !decide (e y < e c)) ++ c :: l.filter (fun y => decide (e y < e c))
def zRk (e : Nat → Int32) (P : Nat → Bool) : Nat → List Nat
  | 0 => []
  | n + 1 => if P n = true then zIns e (zRk e P n) n else zRk e P n
def zSd (e : Nat → Int32) (l : List Nat) : Prop := l.Pairwise (fun x y => ¬ e x < e y)
theorem zlt_of_nlt {x y z : Int32} (h1 : ¬ x < y) (h2 : x < z) : y < z := by
  rw [Int32.lt_iff_toInt_lt] at *
  omega
theorem zlt_irr (x : Int32) : ¬ x < x := by
  rw [Int32.lt_iff_toInt_lt]
  omega
theorem zIns_split {e : Nat → Int32} {c : Nat} : ∀ {l : List Nat}, zSd e l → l = l.filter (fun y => !decide (e y < e c)) ++ l.filter (fun y => decide (e y < e c)) := by
  intro l
  induction l with
  | nil => intro _; rfl
  | cons y l ih =>
    intro h
    have h2 := List.pairwise_cons.mp h
    by_cases hy : e y < e c
    · have hall : ∀ z ∈ l, e z < e c := by
        intro z hz
        have h3 := h2.1 z hz
        rw [Int32.lt_iff_toInt_lt] at *
        omega
      have f1 : l.filter (fun y => !decide (e y < e c)) = [] := by
        rw [List.filter_eq_nil_iff]
        intro z hz
        simp [hall z hz]
      have f2 : l.filter (fun y => decide (e y < e c)) = l := by
        rw [List.filter_eq_self]
        intro z hz
        simp [hall z hz]
      rw [List.filter_cons_of_neg (by simp [hy]), List.filter_cons_of_pos (by simp [hy]), f1, f2]
      rfl
    · rw [List.filter_cons_of_pos (by simp [hy]), List.filter_cons_of_neg (by simp [hy]), List.cons_append, ← ih h2.2]
theorem zIns_sd {e : Nat → Int32} {c : Nat} {l : List Nat} (h : zSd e l) : zSd e (zIns e l c) := by
  unfold zIns zSd
  rw [List.pairwise_append]
  refine ⟨List.Pairwise.filter _ h, ?_, ?_⟩
  · rw [List.pairwise_cons]
    refine ⟨?_, List.Pairwise.filter _ h⟩
    intro z hz
    have h1 := (List.mem_filter.mp hz).2
    have h2 : e z < e c := of_decide_eq_true h1
    rw [Int32.lt_iff_toInt_lt] at *
    omega
  · intro a ha b hb
    have h1 := (List.mem_filter.mp ha).2
    have h2 : ¬ e a < e c := by simpa using h1
    rcases List.mem_cons.mp hb with rfl | hb
    · exact h2
    · have h3 : e b < e c := of_decide_eq_true (List.mem_filter.mp hb).2
      rw [Int32.lt_iff_toInt_lt] at *
      omega
theorem zIns_mem {e : Nat → Int32} {c x : Nat} {l : List Nat} : x ∈ zIns e l c ↔ x = c ∨ x ∈ l := by
  unfold zIns
  rw [List.mem_append, List.mem_cons, List.mem_filter, List.mem_filter]
  by_cases h : e x < e c
  · simp [h]
  · simp [h]
    constructor
    · rintro (h | h)
      · exact Or.inr h
      · exact Or.inl h
    · rintro (h | h)
      · exact Or.inr h
      · exact Or.inl h
theorem zIns_len {e : Nat → Int32} {c : Nat} {l : List Nat} (h : zSd e l) : (zIns e l c).length = l.length + 1 := by
  have h1 := congrArg List.length (zIns_split (c := c) h)
  unfold zIns
  rw [List.length_append] at *
  rw [List.length_cons]
  omega
theorem zRk_sd (e : Nat → Int32) (P : Nat → Bool) : ∀ n, zSd e (zRk e P n) := by
  intro n
  induction n with
  | zero => exact List.Pairwise.nil
  | succ n ih =>
    unfold zRk
    split
    · exact zIns_sd ih
    · exact ih
theorem zRk_mem {e : Nat → Int32} {P : Nat → Bool} {x : Nat} : ∀ {n : Nat}, x ∈ zRk e P n ↔ x < n ∧ P x = true := by
  intro n
  induction n with
  | zero => simp [zRk]
  | succ n ih =>
    unfold zRk
    split
    · rename_i hp
      rw [zIns_mem, ih]
      constructor
      · rintro (rfl | ⟨h1, h2⟩)
        · exact ⟨Nat.lt_succ_self _, hp⟩
        · exact ⟨by omega, h2⟩
      · rintro ⟨h1, h2⟩
        by_cases hx : x = n
        · exact Or.inl hx
        · exact Or.inr ⟨by omega, h2⟩
    · rename_i hp
      rw [ih]
      constructor
      · rintro ⟨h1, h2⟩
        exact ⟨by omega, h2⟩
      · rintro ⟨h1, h2⟩
        refine ⟨?_, h2⟩
        by_cases hx : x = n
        · subst hx
          exact absurd h2 hp
        · omega
theorem zRk_len (e : Nat → Int32) (P : Nat → Bool) : ∀ n, (zRk e P n).length ≤ n := by
  intro n
  induction n with
  | zero => exact Nat.le_refl _
  | succ n ih =>
    unfold zRk
    split
    · rw [zIns_len (zRk_sd e P n)]
      omega
    · omega
theorem zRk_congr {e e' : Nat → Int32} {P P' : Nat → Bool} : ∀ {n : Nat}, (∀ c, c < n → P c = P' c) → (∀ c, c < n → P c = true → e c = e' c) → zRk e P n = zRk e' P' n := by
  intro n
  induction n with
  | zero => intro _ _; rfl
  | succ n ih =>
    intro h1 h2
    have ih' := ih (fun c hc => h1 c (by omega)) (fun c hc => h2 c (by omega))
    unfold zRk
    rw [← h1 n (by omega)]
    split
    · rename_i hp
      rw [← ih']
      unfold zIns
      have hn := h2 n (by omega) hp
      have hm : ∀ y ∈ zRk e P n, e y = e' y := fun y hy => by
        have := zRk_mem.mp hy
        exact h2 y (by omega) this.2
      congr 1
      · apply List.filter_congr
        intro y hy
        rw [hm y hy, hn]
      · congr 1
        apply List.filter_congr
        intro y hy
        rw [hm y hy, hn]
    · exact ih'
/-- a row of ints holds a list of numbers -/
def zRow (R : zV) (l : List Nat) : Prop := ∀ i x, l[i]? = some x → R i = nI x
theorem zRow.nil {R : zV} : zRow R [] := fun i x h => by simp at h
/-- a row shifted from q on, with c at q, holds the list with c -/
theorem zRow.ins {R R' : zV} {e : Nat → Int32} {l : List Nat} {c : Nat} (hs : zSd e l) (hR : zRow R l) (hq : R' (l.filter (fun y => !decide (e y < e c))).length = nI c) (h1 : ∀ i, i < (l.filter (fun y => !decide (e y < e c))).length → R' i = R i) (h2 : ∀ i, (l.filter (fun y => !decide (e y < e c))).length < i → i ≤ l.length → R' i = R (i - 1)) : zRow R' (zIns e l c) := by
  intro i x hx
  have hsp := zIns_split (c := c) hs
  have hln := congrArg List.length hsp
  rw [List.length_append] at hln
  unfold zIns at hx
  by_cases hi : i < (l.filter (fun y => !decide (e y < e c))).length
  · rw [List.getElem?_append_left hi] at hx
    rw [h1 i hi]
    refine hR i x ?_
    rw [hsp, List.getElem?_append_left hi]
    exact hx
  · rw [List.getElem?_append_right (by omega)] at hx
    by_cases hj : i = (l.filter (fun y => !decide (e y < e c))).length
    · rw [hj, Nat.sub_self] at hx
      have : c = x := by simpa using hx
      rw [hj, hq, this]
    · obtain ⟨j, hj2⟩ : ∃ j, i - (l.filter (fun y => !decide (e y < e c))).length = j + 1 := ⟨i - (l.filter (fun y => !decide (e y < e c))).length - 1, by omega⟩
      rw [hj2, List.getElem?_cons_succ] at hx
      have hlt : j < (l.filter (fun y => decide (e y < e c))).length := by
        rcases Nat.lt_or_ge j (l.filter (fun y => decide (e y < e c))).length with h | h
        · exact h
        · rw [List.getElem?_eq_none h] at hx
          cases hx
      rw [h2 i (by omega) (by omega)]
      refine hR (i - 1) x ?_
      rw [hsp, List.getElem?_append_right (by omega)]
      rw [show i - 1 - (l.filter (fun y => !decide (e y < e c))).length = j by omega]
      exact hx
/-- what the list says at the places around q -/
theorem zIns_lo {e : Nat → Int32} {l : List Nat} {c i x : Nat} (hs : zSd e l) (hi : i < (l.filter (fun y => !decide (e y < e c))).length) (hx : l[i]? = some x) : ¬ e x < e c := by
  rw [zIns_split (c := c) hs, List.getElem?_append_left hi] at hx
  have := (List.mem_filter.mp (List.mem_of_getElem? hx)).2
  simpa using this
theorem zIns_hi {e : Nat → Int32} {l : List Nat} {c i x : Nat} (hs : zSd e l) (hi : (l.filter (fun y => !decide (e y < e c))).length ≤ i) (hx : l[i]? = some x) : e x < e c := by
  rw [zIns_split (c := c) hs, List.getElem?_append_right hi] at hx
  exact of_decide_eq_true (List.mem_filter.mp (List.mem_of_getElem? hx)).2
theorem zIns_q {e : Nat → Int32} {l : List Nat} {c : Nat} : (l.filter (fun y => !decide (e y < e c))).length ≤ l.length := List.length_filter_le _ _
/-- the filling of k slots from place p on: W the winners so far, with their places -/
def zFl (ap : Nat → Nat → Bool) (k : Nat) : List Nat → Nat → List (Nat × Nat) → List (Nat × Nat)
  | [], _, W => W
  | c :: l, p, W => if W.length < k then (if (W.any fun w => ap c w.2) = true then zFl ap k l (p + 1) W else zFl ap k l (p + 1) (W ++ [(p, c)])) else W
/-- the price of slot j at place p -/
def zBs (e : Nat → Int32) (l : List Nat) (fl : Int32) (p : Nat) : Int32 := if fl < (if p + 1 < l.length then e (l.getD (p + 1) 0) else 0) then (if p + 1 < l.length then e (l.getD (p + 1) 0) else 0) else fl
def zPr (e : Nat → Int32) (T : zV) (l : List Nat) (fl : Int32) (j p : Nat) : Int32 := (zBs e l fl p * T (3 + j) + 99) / 100
theorem zFl_full {ap : Nat → Nat → Bool} {k : Nat} {l : List Nat} {p : Nat} {W : List (Nat × Nat)} (h : k ≤ W.length) : zFl ap k l p W = W := by
  cases l with
  | nil => rfl
  | cons c l =>
    unfold zFl
    rw [if_neg (by omega)]
theorem zFl_len {ap : Nat → Nat → Bool} {k : Nat} : ∀ {l : List Nat} {p : Nat} {W : List (Nat × Nat)}, W.length ≤ k → (zFl ap k l p W).length ≤ k := by
  intro l
  induction l with
  | nil => intro p W h; exact h
  | cons c l ih =>
    intro p W h
    unfold zFl
    split
    · split
      · exact ih h
      · refine ih ?_
        rw [List.length_append]
        simp
        omega
    · exact h
