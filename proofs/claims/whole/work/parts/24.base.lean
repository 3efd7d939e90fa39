/-! base of the proofs about methods as functions: numbers, loops, frames, the words of the specification -/
abbrev zV : Type := Nat → Int32
theorem zb_in {c n : Nat} (h : c < n) (hn : n < 2 ^ 31) : xin (nI c) n := nI_in h hn
theorem zb_not_in {x : Int32} {n : Nat} (hn : n < 2 ^ 31) (h : xin x n) : ∃ c : Nat, c < n ∧ x = nI c := vp_in_of h hn
/-- a number of a range -/
def zB (lo hi : Nat) (x : Int32) : Prop := ∃ n : Nat, lo ≤ n ∧ n ≤ hi ∧ x = nI n
theorem zB.nI {lo hi n : Nat} (h1 : lo ≤ n) (h2 : n ≤ hi) : zB lo hi (nI n) := ⟨n, h1, h2, rfl⟩
theorem zB.mono {lo hi lo' hi' : Nat} {x : Int32} (h : zB lo hi x) (h1 : lo' ≤ lo) (h2 : hi ≤ hi') : zB lo' hi' x := by
  obtain ⟨n, a, b, c⟩ := h
  exact ⟨n, Nat.le_trans h1 a, Nat.le_trans b h2, c⟩
/-- a loop that counts to L -/
theorem zlp {σ γ : Type} {F : Nat → σ → γ} {I : Nat → σ → Prop} {L : Nat} (st : ∀ n i s, i < L → I i s → ∃ s', I (i + 1) s' ∧ F (n + 1) s = F n s') : ∀ (m i n : Nat) (s : σ), i + m = L → m ≤ n → I i s → ∃ s', I L s' ∧ F n s = F (n - m) s' := by
  intro m
  induction m with
  | zero =>
    intro i n s hi hn hI
    have : i = L := by omega
    subst this
    exact ⟨s, hI, rfl⟩
  | succ m ih =>
    intro i n s hi hn hI
    match n, hn with
    | n + 1, hn =>
      obtain ⟨s1, h1, e1⟩ := st n i s (by omega) hI
      obtain ⟨s2, h2, e2⟩ := ih (i + 1) n s1 (by omega) (by omega) h1
      refine ⟨s2, h2, ?_⟩
      rw [e1, e2, show n + 1 - (m + 1) = n - m by omega]
/-- the same from 0, with its end -/
theorem zlp0 {σ γ : Type} {F : Nat → σ → γ} {I : Nat → σ → Prop} {L : Nat} {N : Nat} {s : σ} {r : γ} (hN : L < N) (h0 : I 0 s) (st : ∀ n i s, i < L → I i s → ∃ s', I (i + 1) s' ∧ F (n + 1) s = F n s') (en : ∀ n s, I L s → F (n + 1) s = r) : F N s = r := by
  obtain ⟨s2, h2, e2⟩ := zlp st L 0 N s (by omega) (by omega) h0
  rw [e2, show N - L = (N - L - 1) + 1 by omega]
  exact en _ _ h2
/-- the same, open at its end -/
theorem zlpO {σ γ : Type} {F : Nat → σ → γ} {I : Nat → σ → Prop} {L : Nat} {N : Nat} {s : σ} (hN : L < N) (h0 : I 0 s) (st : ∀ n i s, i < L → I i s → ∃ s', I (i + 1) s' ∧ F (n + 1) s = F n s') : ∃ n s', I L s' ∧ F N s = F (n + 1) s' := by
  obtain ⟨s2, h2, e2⟩ := zlp st L 0 N s (by omega) (by omega) h0
  exact ⟨N - L - 1, s2, h2, e2.trans (by rw [show N - L - 1 + 1 = N - L by omega])⟩
/-- frames: ints alone change, at the places of A -/
def zF (A : Nat → Nat → Prop) (h h' : xm_H) : Prop := h'.1 = h.1 ∧ h'.2.1 = h.2.1 ∧ h'.2.2.2 = h.2.2.2 ∧ ∀ a k, ¬ A a k → xm_i h' a k = xm_i h a k
section Fr
variable {A B : Nat → Nat → Prop} {h h1 h2 : xm_H}
theorem zF.rf : zF A h h := ⟨rfl, rfl, rfl, fun _ _ _ => rfl⟩
theorem zF.tr (e1 : zF A h h1) (e2 : zF A h1 h2) : zF A h h2 := ⟨e2.1.trans e1.1, e2.2.1.trans e1.2.1, e2.2.2.1.trans e1.2.2.1, fun a k n => (e2.2.2.2 a k n).trans (e1.2.2.2 a k n)⟩
theorem zF.mono (e1 : zF A h h1) (hAB : ∀ a k, A a k → B a k) : zF B h h1 := ⟨e1.1, e1.2.1, e1.2.2.1, fun a k n => e1.2.2.2 a k (fun z => n (hAB a k z))⟩
theorem zF.si {a k : Nat} {v : Int32} (hA : A a k) : zF A h (xm_si h a k v) := ⟨rfl, rfl, rfl, fun b j n => by rw [xi_si, if_neg (fun z => n (by rw [z.1, z.2]; exact hA))]⟩
theorem zF.st {a k : Nat} {v : Int32} (e1 : zF A h h1) (hA : A a k) : zF A h (xm_si h1 a k v) := e1.tr (zF.si hA)
theorem zF.i (e1 : zF A h h1) {a k : Nat} (n : ¬ A a k) : xm_i h1 a k = xm_i h a k := e1.2.2.2 a k n
theorem zF.r (e1 : zF A h h1) (a k : Nat) : xm_r h1 a k = xm_r h a k := by
  show h1.2.2.2.2.2 a k = _
  rw [e1.2.2.1]
  rfl
theorem zF.l (e1 : zF A h h1) (a k : Nat) : xm_l h1 a k = xm_l h a k := by
  show h1.2.2.2.1 a k = _
  rw [e1.2.2.1]
  rfl
theorem zF.k (e1 : zF A h h1) (a : Nat) : xm_k h1 a = xm_k h a := by
  show h1.2.1 a = _
  rw [e1.2.1]
  rfl
theorem zF.n (e1 : zF A h h1) : xm_n h1 = xm_n h := e1.1
/-- a row that no place of A touches -/
theorem zF.row (e1 : zF A h h1) {a : Nat} (n : ∀ k, ¬ A a k) : xm_i h1 a = xm_i h a := funext fun k => e1.i (n k)
end Fr
/-- a row with one place written -/
def zU (S : zV) (k : Nat) (v : Int32) : zV := fun j => if j = k then v else S j
theorem zU_si (h : xm_H) (a k : Nat) (v : Int32) : xm_i (xm_si h a k v) a = zU (xm_i h a) k v := funext fun j => by
  rw [xi_si]
  unfold zU
  by_cases hj : j = k
  · rw [if_pos ⟨rfl, hj⟩, if_pos hj]
  · rw [if_neg (fun z => hj z.2), if_neg hj]
theorem zU_eq {S : zV} {k : Nat} {v : Int32} : zU S k v k = v := if_pos rfl
theorem zU_ne {S : zV} {k j : Nat} {v : Int32} (hj : j ≠ k) : zU S k v j = S j := if_neg hj
/-- another row is as it was -/
theorem zU_ot {h : xm_H} {a b k : Nat} {v : Int32} (hb : b ≠ a) : xm_i (xm_si h a k v) b = xm_i h b := funext fun j => xi_ne hb
/-- counts and sums -/
def zct (p : Nat → Bool) : Nat → Nat
  | 0 => 0
  | n + 1 => zct p n + (if p n = true then 1 else 0)
theorem zct_le (p : Nat → Bool) : ∀ n, zct p n ≤ n := by
  intro n
  induction n with
  | zero => exact Nat.le_refl _
  | succ n ih =>
    show zct p n + _ ≤ n + 1
    split <;> omega
theorem zct_congr {p q : Nat → Bool} : ∀ {n : Nat}, (∀ i, i < n → p i = q i) → zct p n = zct q n := by
  intro n
  induction n with
  | zero => intro _; rfl
  | succ n ih =>
    intro h
    show zct p n + _ = zct q n + _
    rw [ih (fun i hi => h i (by omega)), h n (by omega)]
def zsm (f : Nat → Int32) : Nat → Int32
  | 0 => 0
  | n + 1 => zsm f n + f n
theorem zsm_congr {f g : Nat → Int32} : ∀ {n : Nat}, (∀ i, i < n → f i = g i) → zsm f n = zsm g n := by
  intro n
  induction n with
  | zero => intro _; rfl
  | succ n ih =>
    intro h
    show zsm f n + _ = zsm g n + _
    rw [ih (fun i hi => h i (by omega)), h n (by omega)]
/-- the specification's words over the reference's rows: S its state, T its terms -/
def zEf (S : zV) (c : Nat) : Int32 := (S (3 + 6 * c) * S (3 + 6 * c + 3) + 99) / 100
def zPl (S T : zV) (c : Nat) : Int32 := S (3 + 6 * c + 1) * (1 + (S 0 - S 0 / T 0 * T 0)) / T 0
def zLf (S : zV) (c : Nat) : Int32 := S (3 + 6 * c + 1) - S (3 + 6 * c + 2)
def zRp (S T : zV) (c : Nat) (u : Int32) (k : Nat) : Bool := decide (S (57 + 5 * k + 1) = u ∧ S (57 + 5 * k + 2) = nI c ∧ S 0 - T (39 + c) < S (57 + 5 * k))
def zRc (S T : zV) (c : Nat) (u : Int32) (n : Nat) : Nat := zct (zRp S T c u) n
/-- the refusal at a given effective bid, floor and count -/
def zRf (S T : zV) (rc : Int32) (c : Nat) (tag e fl : Int32) : Int32 :=
  if S (3 + 6 * c + 5) = 1 then 1
  else if ¬ T (47 + c) = -1 ∧ ¬ T (47 + c) = tag then 2
  else if zLf S c < e then 3
  else if ¬ rc < T (31 + c) then 4
  else if S (3 + 6 * c + 4) = 2 ∧ ¬ S (3 + 6 * c + 2) < zPl S T c then 5
  else if e < fl then 6 else 0
/-- indexes -/
theorem zx_of (c w : Nat) : (3 : Int32) + 6 * nI c + nI w = nI (3 + 6 * c + w) := by
  rw [show (3 : Int32) = nI 3 from rfl, show (6 : Int32) = nI 6 from rfl, pk_mul, nI_add, nI_add]
theorem zx_im (k w : Nat) : (57 : Int32) + 5 * nI k + nI w = nI (57 + 5 * k + w) := by
  rw [show (57 : Int32) = nI 57 from rfl, show (5 : Int32) = nI 5 from rfl, pk_mul, nI_add, nI_add]
theorem zx_cv (k w : Nat) : (2057 : Int32) + 4 * nI k + nI w = nI (2057 + 4 * k + w) := by
  rw [show (2057 : Int32) = nI 2057 from rfl, show (4 : Int32) = nI 4 from rfl, pk_mul, nI_add, nI_add]
theorem zx_add (n k : Nat) : nI n + nI k = nI (n + k) := nI_add n k
