/-! write: someone reached, some impression -/
theorem zctp {p : Nat → Bool} {j : Nat} (hp : p j = true) : ∀ n, j < n → 0 < zct p n := by
  intro n
  induction n with
  | zero => intro h; omega
  | succ n ih =>
    intro h
    show 0 < zct p n + (if p n = true then 1 else 0)
    by_cases hj : j = n
    · subst hj
      rw [if_pos hp]
      omega
    · have := ih (by omega)
      omega
theorem zseen {U C : zV} {c : Int32} : ∀ {n : Nat}, (∀ i, i < n → zB 0 15 (U i)) → (0 < zpc (zMs U C c n) ↔ 0 < zct (fun j => decide (C j = c)) n) := by
  intro n
  induction n with
  | zero =>
    intro _
    have h1 : zpc (zMs U C c 0) = 0 := by
      show zct (fun j => (0 : Nat).testBit j) 16 = 0
      decide
    rw [h1]
    exact Iff.rfl
  | succ n ih =>
    intro hU
    have ih' := ih (fun i hi => hU i (by omega))
    have hs : zct (fun j => decide (C j = c)) (n + 1) = zct (fun j => decide (C j = c)) n + (if decide (C n = c) = true then 1 else 0) := rfl
    rw [hs]
    unfold zMs
    by_cases hc : C n = c
    · rw [if_pos hc, if_pos (decide_eq_true hc)]
      obtain ⟨u, u1, u2, u3⟩ := hU n (by omega)
      rw [u3, nI_clamp (by omega)]
      refine ⟨fun _ => by omega, fun _ => ?_⟩
      refine zctp (j := u) ?_ 16 (by omega)
      rw [Nat.testBit_or, Nat.testBit_two_pow]
      simp
    · rw [if_neg hc, if_neg (by simpa using hc)]
      exact ih'
