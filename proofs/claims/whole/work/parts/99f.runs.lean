/-! the start: runs of the computing machine -/
def cRt (i : Instr) : Bool := match i with
  | .return_ => true
  | _ => false
def cI (call : cCal) (M : xm_M) (stop : Nat) : Nat → Nat → xm_L → List Value → cSt → Option (Nat × xm_L × List Value × cSt)
  | 0 => fun _ _ _ _ => none
  | n + 1 => fun pc ls st s => if pc = stop then some (pc, ls, st, s) else match xm_at M pc with
    | none => none
    | some e => match cRt e.1 with
      | true => some (pc, ls, st, s)
      | false => match cS call e pc (xm_mk e.2.1 ls) st s with
        | some (pc', ls', st', s') => cI call M stop n pc' ls' st' s'
        | none => none
def cC (X : List xm_M) (F : Nat) : Nat → cCal
  | 0 => fun _ _ _ => none
  | d + 1 => fun y as s => match X[y]? with
    | none => none
    | some M => if (xm_av as).length ≤ M.2.2.2.2.1 then (match cI (cC X F d) M 100000 F 0 (xm_en M.2.2.2.2.1 as) [] s with
        | some (pc, _, [], s') => match xm_at M pc with
          | some e => match cRt e.1 with
            | true => some (none, s')
            | false => none
          | none => none
        | _ => none) else none
section Ci
variable {b : xm_H} {C : xm_Cl} {call : cCal} {M : xm_M} {stop : Nat}
theorem cI_ok (hC : cOk b C call) : ∀ (n pc : Nat) (ls : xm_L) (st : List Value) (s : cSt) (pc' : Nat) (ls' : xm_L) (st' : List Value) (s' : cSt) (h : xm_H), cI call M stop n pc ls st s = some (pc', ls', st', s') → cRel b s h → ∃ h', cRel b s' h' ∧ ∀ Q, xm_W C M Q pc' ls' st' h' → xm_W C M Q pc ls st h := by
  intro n
  induction n with
  | zero =>
    intro pc ls st s pc' ls' st' s' h e R
    cases e
  | succ n ih =>
    intro pc ls st s pc' ls' st' s' h e R
    rw [cI] at e
    dsimp only at e
    split at e
    · cases e
      exact ⟨h, R, fun Q hw => hw⟩
    · split at e
      · cases e
      · rename_i e0 hat
        split at e
        · cases e
          exact ⟨h, R, fun Q hw => hw⟩
        · split at e
          · rename_i pc2 ls2 st2 s2 hs
            obtain ⟨h2, R2, k2⟩ := cS_ok (M := M) hC R hs
            obtain ⟨h3, R3, k3⟩ := ih _ _ _ _ _ _ _ _ h2 e R2
            refine ⟨h3, R3, fun Q hw => xm_W.step ?_⟩
            unfold xm_F
            rw [hat]
            exact k2 (xm_W C M Q) Q (k3 Q hw)
          · cases e
theorem cRt_1 {i : Instr} (h : cRt i = true) : i = .return_ := by
  cases i
  all_goals first | rfl | cases h
theorem cC_ok {X : List xm_M} {F : Nat} : ∀ d, cOk b (xm_Rn X d) (cC X F d) := by
  intro d
  induction d with
  | zero =>
    intro y as s v s' h e R
    cases e
  | succ d ih =>
    intro y as s v s' h e R
    rw [cC] at e
    dsimp only at e
    split at e
    · cases e
    · rename_i M hM
      split at e
      · rename_i hl
        split at e
        · rename_i pc ls2 s2 hI
          split at e
          · rename_i e0 hat
            split at e
            · rename_i hr
              cases e
              obtain ⟨h2, R2, k2⟩ := cI_ok ih _ _ _ _ _ _ _ _ _ h hI R
              refine ⟨h2, ⟨M, hM, hl, k2 _ (xm_W.step ?_)⟩, R2⟩
              unfold xm_F
              rw [hat]
              obtain ⟨i, mk, pl, cv⟩ := e0
              have hi : i = .return_ := cRt_1 hr
              subst hi
              exact ⟨rfl, rfl⟩
            · cases e
          · cases e
        · cases e
      · cases e
end Ci
