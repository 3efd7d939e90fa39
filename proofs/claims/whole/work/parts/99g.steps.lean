/-! the start: runs of so many steps -/
abbrev cFg : Type := Nat × xm_L × List Value × cSt
def cN (call : cCal) (M : xm_M) : Nat → cFg → Option cFg
  | 0 => fun c => some c
  | n + 1 => fun c => match xm_at M c.1 with
    | none => none
    | some e => match cS call e c.1 (xm_mk e.2.1 c.2.1) c.2.2.1 c.2.2.2 with
      | some c' => cN call M n c'
      | none => none
def cVq (a b : Option Value) : Bool := match a, b with
  | none, none => true
  | some (.ref x), some (.ref y) => x == y
  | some (.int x), some (.int y) => x == y
  | _, _ => false
def cLq : xm_L → xm_L → Bool
  | [], [] => true
  | a :: l, b :: m => cVq a b && cLq l m
  | _, _ => false
/-- from c the run comes to c', which has nothing on its stack -/
def cTo (call : cCal) (M : xm_M) (n : Nat) (c c' : cFg) : Bool := match cN call M n c with
  | some d => decide (d.1 = c'.1) && cLq d.2.1 c'.2.1 && d.2.2.1.isEmpty && c'.2.2.1.isEmpty && decide (d.2.2.2 = c'.2.2.2)
  | none => false
/-- a call whose outcome is known -/
def cO (y0 a0 : Nat) (s0 s1 : cSt) (call : cCal) : cCal := fun y as s => if y = y0 then (match as with
  | [.ref a] => if a = a0 ∧ s = s0 then some (none, s1) else none
  | _ => none) else call y as s
section Cn
variable {b : xm_H} {C : xm_Cl} {call : cCal} {M : xm_M}
theorem cN_ok (hC : cOk b C call) : ∀ (n : Nat) (c c' : cFg) (h : xm_H), cN call M n c = some c' → cRel b c.2.2.2 h → ∃ h', cRel b c'.2.2.2 h' ∧ ∀ Q, xm_W C M Q c'.1 c'.2.1 c'.2.2.1 h' → xm_W C M Q c.1 c.2.1 c.2.2.1 h := by
  intro n
  induction n with
  | zero =>
    intro c c' h e R
    cases e
    exact ⟨h, R, fun Q hw => hw⟩
  | succ n ih =>
    intro c c' h e R
    rw [cN] at e
    dsimp only at e
    split at e
    · cases e
    · rename_i e0 hat
      split at e
      · rename_i c2 hs
        obtain ⟨h2, R2, k2⟩ := cS_ok (M := M) (pc' := c2.1) (ls' := c2.2.1) (st' := c2.2.2.1) (s' := c2.2.2.2) hC R hs
        obtain ⟨h3, R3, k3⟩ := ih _ _ h2 e R2
        refine ⟨h3, R3, fun Q hw => xm_W.step ?_⟩
        unfold xm_F
        rw [hat]
        exact k2 (xm_W C M Q) Q (k3 Q hw)
      · cases e
theorem cVq_1 {x y : Option Value} (h : cVq x y = true) : x = y := by
  unfold cVq at h
  split at h
  · rfl
  · rw [eq_of_beq h]
  · rw [eq_of_beq h]
  · cases h
theorem cLq_1 : ∀ {l m : xm_L}, cLq l m = true → l = m := by
  intro l
  induction l with
  | nil =>
    intro m h
    cases m with
    | nil => rfl
    | cons x m => cases h
  | cons a l ih =>
    intro m h
    cases m with
    | nil => cases h
    | cons x m =>
      have h : (cVq a x && cLq l m) = true := h
      rw [Bool.and_eq_true] at h
      rw [cVq_1 h.1, ih h.2]
theorem cTo_1 {n : Nat} {c c' : cFg} (h : cTo call M n c c' = true) : cN call M n c = some c' := by
  unfold cTo at h
  split at h
  · rename_i d hd
    rw [hd]
    rw [Bool.and_eq_true, Bool.and_eq_true, Bool.and_eq_true, Bool.and_eq_true] at h
    obtain ⟨⟨⟨⟨e1, e2⟩, e3⟩, e4⟩, e5⟩ := h
    obtain ⟨d1, d2, d3, d4⟩ := d
    obtain ⟨f1, f2, f3, f4⟩ := c'
    dsimp only at e1 e2 e3 e4 e5
    rw [of_decide_eq_true e1, cLq_1 e2, List.isEmpty_iff.mp e3, List.isEmpty_iff.mp e4, of_decide_eq_true e5]
  · cases h
theorem cTo_ok (hC : cOk b C call) {n : Nat} {c c' : cFg} (h : cTo call M n c c' = true) (k : ∀ x, cRel b c'.2.2.2 x → ∃ x', ∃ s', cRel b s' x' ∧ ∀ Q, Q (.inl none) x' → xm_W C M Q c'.1 c'.2.1 c'.2.2.1 x) : ∀ x, cRel b c.2.2.2 x → ∃ x', ∃ s', cRel b s' x' ∧ ∀ Q, Q (.inl none) x' → xm_W C M Q c.1 c.2.1 c.2.2.1 x := fun x R => by
  obtain ⟨h', R', k'⟩ := cN_ok hC n c c' x (cTo_1 h) R
  obtain ⟨x', s', R2, k2⟩ := k h' R'
  exact ⟨x', s', R2, fun Q hq => k' Q (k2 Q hq)⟩
theorem cO_ok {y0 a0 : Nat} {s0 s1 : cSt} (hC : cOk b C call) (h0 : ∀ h, cRel b s0 h → ∃ h', C y0 [.ref a0] h (.inl none) h' ∧ cRel b s1 h') : cOk b C (cO y0 a0 s0 s1 call) := fun y as s v s' h e R => by
  unfold cO at e
  split at e
  · rename_i hy
    split at e
    · split at e
      · rename_i hc
        cases e
        rw [hy, hc.1]
        rw [hc.2] at R
        exact h0 h R
      · cases e
    · cases e
  · exact hC _ _ _ _ _ _ e R
theorem cC_at {X : List xm_M} {F d d' : Nat} (hd : d ≤ d') : cOk b (xm_Rn X d') (cC X F d) := fun y as s v s' h e R => by
  obtain ⟨h', q1, q2⟩ := cC_ok (b := b) d y as s v s' h e R
  exact ⟨h', xm_Rn_le hd q1, q2⟩
theorem xm_ret {Q : xm_O → xm_H → Prop} {pc : Nat} {ls : xm_L} {h : xm_H} (h1 : (match xm_at M pc with
  | some e => cRt e.1
  | none => false) = true) (hq : Q (.inl none) h) : xm_W C M Q pc ls [] h := by
  refine xm_W.step ?_
  unfold xm_F
  split at h1
  · rename_i e he
    rw [he]
    obtain ⟨i, mk, pl, cv⟩ := e
    have hi : i = .return_ := cRt_1 h1
    subst hi
    exact hq
  · cases h1
end Cn
