/-! the floor that earns the most: pure part -/
def zsn (g : Nat → Nat) : Nat → Nat
  | 0 => 0
  | n + 1 => zsn g n + g n
theorem zsn_le {g g' : Nat → Nat} : ∀ {n : Nat}, (∀ i, i < n → g i ≤ g' i) → zsn g n ≤ zsn g' n := by
  intro n
  induction n with
  | zero => intro _; exact Nat.le_refl _
  | succ n ih =>
    intro h
    exact Nat.add_le_add (ih (fun i hi => h i (by omega))) (h n (by omega))
theorem zsn_bd {g : Nat → Nat} {B : Nat} : ∀ {n : Nat}, (∀ i, i < n → g i ≤ B) → zsn g n ≤ n * B := by
  intro n
  induction n with
  | zero => intro _; show 0 ≤ _; omega
  | succ n ih =>
    intro h
    have h1 := ih (fun i hi => h i (by omega))
    have h2 := h n (by omega)
    show zsn g n + g n ≤ (n + 1) * B
    rw [Nat.succ_mul]
    omega
theorem zsm_n {f : Nat → Int32} {g : Nat → Nat} : ∀ {n : Nat}, (∀ i, i < n → f i = nI (g i)) → zsm f n = nI (zsn g n) := by
  intro n
  induction n with
  | zero => intro _; rfl
  | succ n ih =>
    intro h
    show zsm f n + f n = nI (zsn g n + g n)
    rw [ih (fun i hi => h i (by omega)), h n (by omega), nI_add]
theorem zleast (V : List Nat) (f : Nat) : (∃ v ∈ V, f ≤ v) → ∃ v ∈ V, f ≤ v ∧ ∀ v' ∈ V, f ≤ v' → v ≤ v' := by
  induction V with
  | nil => rintro ⟨v, hv, _⟩; simp at hv
  | cons a V ih =>
    rintro ⟨v, hv, hf⟩
    by_cases hV : ∃ v ∈ V, f ≤ v
    · obtain ⟨w, w1, w2, w3⟩ := ih hV
      by_cases ha : f ≤ a ∧ a ≤ w
      · refine ⟨a, List.mem_cons_self, ha.1, fun v' hv' hf' => ?_⟩
        rcases List.mem_cons.mp hv' with rfl | hv'
        · exact Nat.le_refl _
        · exact Nat.le_trans ha.2 (w3 v' hv' hf')
      · refine ⟨w, List.mem_cons_of_mem _ w1, w2, fun v' hv' hf' => ?_⟩
        rcases List.mem_cons.mp hv' with rfl | hv'
        · omega
        · exact w3 v' hv' hf'
    · rcases List.mem_cons.mp hv with rfl | hv
      · refine ⟨v, List.mem_cons_self, hf, fun v' hv' hf' => ?_⟩
        rcases List.mem_cons.mp hv' with rfl | hv'
        · exact Nat.le_refl _
        · exact absurd ⟨v', hv', hf'⟩ hV
      · exact absurd ⟨v, hv, hf⟩ hV
/-- the halving -/
def zHv (E : Nat → Nat) (M : Nat) : Nat → Nat → Nat → Nat
  | 0, lo, _ => lo
  | n + 1, lo, hi => if lo < hi then (if E ((lo + hi) / 2) < M then zHv E M n ((lo + hi) / 2 + 1) hi else zHv E M n lo ((lo + hi) / 2)) else lo
theorem zHv_ok {E : Nat → Nat} {M en : Nat} (hup : ∀ f g, f ≤ g → g ≤ en → M ≤ E f → M ≤ E g) : ∀ (n lo hi : Nat), lo ≤ hi → hi ≤ en → hi - lo < 2 ^ n → M ≤ E hi → (∀ f, f < lo → E f < M) → (∀ f, f < zHv E M n lo hi → E f < M) ∧ M ≤ E (zHv E M n lo hi) ∧ zHv E M n lo hi ≤ hi := by
  intro n
  induction n with
  | zero =>
    intro lo hi h1 h2 h3 h4 h5
    have : lo = hi := by simp at h3; omega
    subst this
    exact ⟨h5, h4, Nat.le_refl _⟩
  | succ n ih =>
    intro lo hi h1 h2 h3 h4 h5
    rw [Nat.pow_succ] at h3
    unfold zHv
    by_cases h : lo < hi
    · rw [if_pos h]
      by_cases hm : E ((lo + hi) / 2) < M
      · rw [if_pos hm]
        refine ih ((lo + hi) / 2 + 1) hi (by omega) h2 (by omega) h4 (fun f hf => ?_)
        rcases Nat.lt_or_ge (E f) M with h6 | h6
        · exact h6
        · have := hup f ((lo + hi) / 2) (by omega) (by omega) h6
          omega
      · rw [if_neg hm]
        obtain ⟨r1, r2, r3⟩ := ih lo ((lo + hi) / 2) (by omega) (by omega) (by omega) (by omega) h5
        exact ⟨r1, r2, by omega⟩
    · rw [if_neg h]
      have : lo = hi := by omega
      subst this
      exact ⟨h5, h4, Nat.le_refl _⟩
/-- the shorter way finds the first greatest -/
theorem zbest {E : Nat → Nat} {V : List Nat} {M en rm : Nat} (hV : ∀ v ∈ V, v ≤ 999 ∧ 1 ≤ E v) (H1 : ∀ f g, f ≤ g → (∀ v ∈ V, f ≤ v → g ≤ v) → E f ≤ E g) (H0 : ∀ f, (∀ v ∈ V, v < f) → E f = 0) (hM : ∀ v ∈ V, E v ≤ M) (hen : (V = [] ∧ M = 0 ∧ en = 0) ∨ (en ∈ V ∧ E en = M ∧ ∀ v ∈ V, v < en → E v < M)) (hr1 : rm ≤ 999) (hr2 : ∀ f, f ≤ 999 → E f ≤ E rm) (hr3 : ∀ f, f < rm → E f < E rm) : zHv E M 12 0 en = rm := by
  have hmax : ∀ f, f ≤ 999 → E f ≤ M := by
    intro f hf
    by_cases hv : ∃ v ∈ V, f ≤ v
    · obtain ⟨v, v1, v2, v3⟩ := zleast V f hv
      exact Nat.le_trans (H1 f v v2 v3) (hM v v1)
    · have : E f = 0 := H0 f (fun v hv2 => by
        rcases Nat.lt_or_ge v f with h | h
        · exact h
        · exact absurd ⟨v, hv2, h⟩ hv)
      omega
  rcases hen with ⟨h1, h2, h3⟩ | ⟨h1, h2, h3⟩
  · subst h3
    have : zHv E M 12 0 0 = 0 := by
      unfold zHv
      rw [if_neg (by omega)]
    rw [this]
    rcases Nat.eq_zero_or_pos rm with h | h
    · exact h.symm
    · have a1 := hr3 0 h
      have a2 := hmax rm hr1
      omega
  · have hen9 := (hV en h1).1
    have hM1 : 1 ≤ M := by rw [← h2]; exact (hV en h1).2
    have hup : ∀ f g, f ≤ g → g ≤ en → M ≤ E f → M ≤ E g := by
      intro f g hfg hge hMf
      obtain ⟨v, v1, v2, v3⟩ := zleast V f ⟨en, h1, by omega⟩
      have hve := v3 en h1 (by omega)
      have h4 := H1 f v v2 v3
      have h5 : ¬ v < en := fun z => by
        have := h3 v v1 z
        omega
      have : v = en := by omega
      subst this
      exact Nat.le_trans hMf (H1 f g hfg (fun v' hv' hf' => Nat.le_trans hge (v3 v' hv' hf')))
    obtain ⟨r1, r2, r3⟩ := zHv_ok hup 12 0 en (by omega) (Nat.le_refl _) (by omega) (by omega) (fun f hf => by omega)
    have hEm : E rm = M := by
      have a1 := hmax rm hr1
      have a2 := hr2 en hen9
      omega
    rcases Nat.lt_trichotomy (zHv E M 12 0 en) rm with h | h | h
    · have := hr3 _ h
      omega
    · exact h
    · have := r1 rm h
      omega
/-- where the winners stand -/
theorem zFl_pl {ap : Nat → Nat → Bool} {k : Nat} : ∀ {l : List Nat} {p : Nat} {W : List (Nat × Nat)}, ∃ V, zFl ap k l p W = W ++ V ∧ ∀ v ∈ V, p ≤ v.1 ∧ v.1 < p + l.length := by
  intro l
  induction l with
  | nil => intro p W; exact ⟨[], by simp [zFl], by simp⟩
  | cons c l ih =>
    intro p W
    unfold zFl
    rw [List.length_cons]
    split
    · split
      · obtain ⟨V, h1, h2⟩ := @ih (p + 1) W
        exact ⟨V, h1, fun v hv => by have := h2 v hv; omega⟩
      · obtain ⟨V, h1, h2⟩ := @ih (p + 1) (W ++ [(p, c)])
        refine ⟨(p, c) :: V, by rw [h1]; simp, fun v hv => ?_⟩
        rcases List.mem_cons.mp hv with rfl | hv
        · exact ⟨Nat.le_refl _, by show p < _; omega⟩
        · have := h2 v hv
          omega
    · exact ⟨[], by simp, by simp⟩
/-- an ordered list up to a floor -/
theorem ztw_filter {e : Nat → Int32} {v : Int32} : ∀ {l : List Nat}, zSd e l → l.takeWhile (fun c => !decide (e c < v)) = l.filter (fun c => !decide (e c < v)) := by
  intro l
  induction l with
  | nil => intro _; rfl
  | cons c l ih =>
    intro h
    have h2 := List.pairwise_cons.mp h
    by_cases hc : e c < v
    · rw [List.takeWhile_cons_of_neg (by simp [hc]), List.filter_cons_of_neg (by simp [hc])]
      symm
      rw [List.filter_eq_nil_iff]
      intro x hx
      have h3 := h2.1 x hx
      have : e x < v := by
        rw [Int32.lt_iff_toInt_lt] at *
        omega
      simp [this]
    · rw [List.takeWhile_cons_of_pos (by simp [hc]), List.filter_cons_of_pos (by simp [hc]), ih h2.2]
theorem ztw_get {e : Nat → Int32} {v : Int32} {l : List Nat} {p : Nat} (hp : p < (l.takeWhile (fun c => !decide (e c < v))).length) : (l.takeWhile (fun c => !decide (e c < v)))[p]? = l[p]? := by
  have h1 : l.takeWhile (fun c => !decide (e c < v)) ++ l.dropWhile (fun c => !decide (e c < v)) = l := List.takeWhile_append_dropWhile
  conv => rhs; rw [← h1]
  rw [List.getElem?_append_left hp]
theorem ztw_next {e : Nat → Int32} {v : Int32} {x : Nat} : ∀ {l : List Nat}, l[(l.takeWhile (fun c => !decide (e c < v))).length]? = some x → e x < v := by
  intro l
  induction l with
  | nil => intro h; simp at h
  | cons c l ih =>
    intro h
    by_cases hc : e c < v
    · rw [List.takeWhile_cons_of_neg (by simp [hc])] at h
      have : c = x := by simpa using h
      rw [← this]
      exact hc
    · rw [List.takeWhile_cons_of_pos (by simp [hc]), List.length_cons, List.getElem?_cons_succ] at h
      exact ih h
/-- prices by the ordered list, or by what the floor leaves of it -/
theorem zBs_tw {e : Nat → Int32} {fl : Int32} {l : List Nat} {p : Nat} (hf : ¬ fl < 0) (hp : p < (l.takeWhile (fun c => !decide (e c < fl))).length) : zBs e (l.takeWhile (fun c => !decide (e c < fl))) fl p = zBs e l fl p := by
  have hle : (l.takeWhile (fun c => !decide (e c < fl))).length ≤ l.length := (List.takeWhile_prefix _).length_le
  unfold zBs
  by_cases h1 : p + 1 < (l.takeWhile (fun c => !decide (e c < fl))).length
  · rw [if_pos h1, if_pos (show p + 1 < l.length by omega)]
    rw [List.getD_eq_getElem?_getD, List.getD_eq_getElem?_getD, ztw_get h1]
  · rw [if_neg h1, if_neg hf]
    by_cases h2 : p + 1 < l.length
    · rw [if_pos h2]
      have hx := List.getElem?_eq_getElem h2
      have hpe : p + 1 = (l.takeWhile (fun c => !decide (e c < fl))).length := by omega
      have h3 : e l[p + 1] < fl := ztw_next (l := l) (x := l[p + 1]) (by rw [← hpe]; exact hx)
      rw [List.getD_eq_getElem?_getD, hx]
      show fl = if fl < e l[p + 1] then e l[p + 1] else fl
      rw [if_neg]
      rw [Int32.lt_iff_toInt_lt] at *
      omega
    · rw [if_neg h2, if_neg hf]
