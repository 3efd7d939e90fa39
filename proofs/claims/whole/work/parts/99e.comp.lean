/-! the start: the computing machine -/
abbrev cCal : Type := Nat → List Value → cSt → Option (Option Value × cSt)
/-- a call: y the method, n its arguments -/
def cCl (call : cCal) (y n pc : Nat) (ls : xm_L) (st : List Value) (s : cSt) : Option (Nat × xm_L × List Value × cSt) :=
  if n ≤ st.length ∧ ((st.drop n).map fun v => v.category).sum ≤ 8 then
    match call y (st.take n).reverse s with
    | some (v, s') => some (pc + 3, ls, v.toList ++ st.drop n, s')
    | none => none
  else none
/-- the receiver under n arguments is of class t -/
def cRc (n t : Nat) (st : List Value) (s : cSt) : Bool := match st[n]? with
  | some (.ref a) => match cKd s a with
    | some κ => κ.1 == t
    | none => false
  | _ => false
def cS (call : cCal) (e : xm_E) (pc : Nat) (ls : xm_L) (st : List Value) (s : cSt) : Option (Nat × xm_L × List Value × cSt) := match e.1 with
  | .iconst n => some (pc + 1, ls, .int (Int32.ofInt n) :: st, s)
  | .bipush n => some (pc + 2, ls, .int (Int8.ofInt n).toInt32 :: st, s)
  | .sipush n => some (pc + 3, ls, .int (Int16.ofInt n).toInt32 :: st, s)
  | .ldc _ => some (pc + 2, ls, e.2.2.2 :: st, s)
  | .aload_n k => match xm_ld ls k with
    | some (.ref a) => some (pc + 1, ls, .ref a :: st, s)
    | _ => none
  | .iload_n k => match xm_ld ls k with
    | some (.int x) => some (pc + 1, ls, .int x :: st, s)
    | _ => none
  | .astore_n k => match st with
    | .ref a :: r => if k < ls.length then some (pc + 1, xm_st ls k (.ref a), r, s) else none
    | _ => none
  | .astore k => match st with
    | .ref a :: r => if k < ls.length then some (pc + 2, xm_st ls k (.ref a), r, s) else none
    | _ => none
  | .istore_n k => match st with
    | .int a :: r => if k < ls.length then some (pc + 1, xm_st ls k (.int a), r, s) else none
    | _ => none
  | .istore k => match st with
    | .int a :: r => if k < ls.length then some (pc + 2, xm_st ls k (.int a), r, s) else none
    | _ => none
  | .iinc k n => match xm_ld ls k with
    | some (.int x) => if k < ls.length then some (pc + 3, xm_st ls k (.int (x + Int32.ofInt n)), st, s) else none
    | _ => none
  | .iadd => match st with
    | .int y :: .int x :: r => some (pc + 1, ls, .int (x + y) :: r, s)
    | _ => none
  | .imul => match st with
    | .int y :: .int x :: r => some (pc + 1, ls, .int (x * y) :: r, s)
    | _ => none
  | .dup => match st with
    | .ref a :: r => some (pc + 1, ls, .ref a :: .ref a :: r, s)
    | _ => none
  | .goto _ => some (xm_p0 e.2.2.1 0, ls, st, s)
  | .ifCond c _ => match st with
    | .int x :: r => some (xm_br (xm_cb c x 0) (xm_p0 e.2.2.1 0) pc, ls, r, s)
    | _ => none
  | .if_icmp c _ => match st with
    | .int y :: .int x :: r => some (xm_br (xm_cb c x y) (xm_p0 e.2.2.1 0) pc, ls, r, s)
    | _ => none
  | .getstatic _ => match xm_p0 e.2.2.1 0 with
    | 0 => some (pc + 3, ls, e.2.2.2 :: st, s)
    | _ => none
  | .new _ => match xm_p0 e.2.2.1 0 with
    | 0 => some (pc + 3, ls, .ref (160 + s.1.length) :: st, cNew s (xm_p0 e.2.2.1 1, 0))
    | _ => none
  | .newarray _ => match st with
    | .int n :: r => if ¬ n < 0 ∧ n.toNatClampNeg ≤ 60000000 then some (pc + 2, ls, .ref (160 + s.1.length) :: r, cNew s (xm_p0 e.2.2.1 0, n.toNatClampNeg)) else none
    | _ => none
  | .anewarray _ => match st with
    | .int n :: r => if ¬ n < 0 ∧ n.toNatClampNeg ≤ 60000000 then some (pc + 3, ls, .ref (160 + s.1.length) :: r, cNew s (xm_p0 e.2.2.1 0, n.toNatClampNeg)) else none
    | _ => none
  | .putfield _ => match st with
    | .int x :: .ref a :: r => match cKd s a with
      | some κ => if κ.1 = xm_p0 e.2.2.1 0 ∧ (xm_p0 e.2.2.1 2 = 0 ∨ (xm_p0 e.2.2.1 2 = 2 ∧ x = 0)) then some (pc + 3, ls, r, cSi s a (xm_p0 e.2.2.1 1) x) else none
      | none => none
    | .ref c :: .ref a :: r => match cKd s a with
      | some κ => if κ.1 = xm_p0 e.2.2.1 0 ∧ xm_p0 e.2.2.1 2 = 6 then some (pc + 3, ls, r, cSr s a (xm_p0 e.2.2.1 1) c) else none
      | none => none
    | _ => none
  | .getfield _ => match st with
    | .ref a :: r => match cKd s a with
      | some κ => if κ.1 = xm_p0 e.2.2.1 0 then (if xm_p0 e.2.2.1 2 = 6 then (match cRf s a (xm_p0 e.2.2.1 1) with
          | some c => some (pc + 3, ls, .ref c :: r, s)
          | none => none) else if xm_p0 e.2.2.1 2 = 0 then some (pc + 3, ls, .int (cIn s a (xm_p0 e.2.2.1 1)) :: r, s) else none) else none
      | none => none
    | _ => none
  | .iastore => match st with
    | .int x :: .int j :: .ref a :: r => match cKd s a with
      | some κ => if κ.1 = 100 ∧ xin j κ.2 then some (pc + 1, ls, r, cSi s a j.toNatClampNeg x) else none
      | none => none
    | _ => none
  | .iaload => match st with
    | .int j :: .ref a :: r => match cKd s a with
      | some κ => if κ.1 = 100 ∧ xin j κ.2 then some (pc + 1, ls, .int (cIn s a j.toNatClampNeg) :: r, s) else none
      | none => none
    | _ => none
  | .laload => match st with
    | .int j :: .ref a :: r => match cKd s a with
      | some κ => if κ.1 = 104 ∧ xin j κ.2 then some (pc + 1, ls, .long 0 :: r, s) else none
      | none => none
    | _ => none
  | .lastore => match st with
    | .long x :: .int j :: .ref a :: r => match cKd s a with
      | some κ => if κ.1 = 104 ∧ xin j κ.2 ∧ x = 0 then some (pc + 1, ls, r, s) else none
      | none => none
    | _ => none
  | .aaload => match st with
    | .int j :: .ref a :: r => match cKd s a with
      | some κ => if κ.1 = xm_p0 e.2.2.1 0 ∧ xin j κ.2 then (match cRf s a j.toNatClampNeg with
          | some c => some (pc + 1, ls, .ref c :: r, s)
          | none => none) else none
      | none => none
    | _ => none
  | .aastore => match st with
    | .ref c :: .int j :: .ref a :: r => match cKd s a, cKd s c with
      | some κ, some κ' => if κ.1 = xm_p0 e.2.2.1 0 ∧ xin j κ.2 ∧ κ'.1 = xm_p0 e.2.2.1 1 then some (pc + 1, ls, r, cSr s a j.toNatClampNeg c) else none
      | _, _ => none
    | _ => none
  | .invokespecial _ => if xm_p0 e.2.2.1 0 = 8 then (match st with
      | .ref _ :: r => if (r.map fun v => v.category).sum ≤ 8 then some (pc + 3, ls, r, s) else none
      | _ => none)
    else if xm_p0 e.2.2.1 0 = 2 ∨ xm_p0 e.2.2.1 0 = 4 ∨ xm_p0 e.2.2.1 0 = 7 then (if cRc (xm_p0 e.2.2.1 2) (xm_p0 e.2.2.1 3) st s = true then cCl call (xm_p0 e.2.2.1 1) (xm_p0 e.2.2.1 2 + 1) pc ls st s else none) else none
  | .invokevirtual _ => if xm_p0 e.2.2.1 0 = 1 ∨ xm_p0 e.2.2.1 0 = 6 then (if cRc (xm_p0 e.2.2.1 2) (xm_p0 e.2.2.1 3) st s = true then cCl call (xm_p0 e.2.2.1 1) (xm_p0 e.2.2.1 2 + 1) pc ls st s else none) else none
  | _ => none
/-- a call's computing is right -/
def cOk (b : xm_H) (C : xm_Cl) (call : cCal) : Prop := ∀ y as s v s' h, call y as s = some (v, s') → cRel b s h → ∃ h', C y as h (.inl v) h' ∧ cRel b s' h'
section Cs
variable {b h : xm_H} {C : xm_Cl} {call : cCal} {M : xm_M} {e : xm_E} {pc pc' : Nat} {ls ls' : xm_L} {st st' : List Value} {s s' : cSt} {K : xm_P} {Q : xm_O → xm_H → Prop}
theorem cCl_1 {y n : Nat} (hC : cOk b C call) (R : cRel b s h) (e : cCl call y n pc ls st s = some (pc', ls', st', s')) : ∃ h', cRel b s' h' ∧ ∀ K : xm_P, K pc' ls' st' h' → xm_in1 C y n pc ls st h K := by
  unfold cCl at e
  split at e
  · rename_i hc
    split at e
    · rename_i v s2 hcl
      cases e
      obtain ⟨h', q1, q2⟩ := hC _ _ _ _ _ _ hcl R
      exact ⟨h', q2, fun K hK => ⟨hc.1, hc.2, v, h', q1, hK⟩⟩
    · cases e
  · cases e
theorem cCl_2 {y n : Nat} (hC : cOk b C call) (R : cRel b s h) (e : cCl call y n pc ls st s = some (pc', ls', st', s')) : ∃ h', cRel b s' h' ∧ ∀ (K : xm_P) (Q : xm_O → xm_H → Prop), K pc' ls' st' h' → xm_inv C M y n pc ls st h K Q := by
  unfold cCl at e
  split at e
  · rename_i hc
    split at e
    · rename_i v s2 hcl
      cases e
      obtain ⟨h', q1, q2⟩ := hC _ _ _ _ _ _ hcl R
      exact ⟨h', q2, fun K Q hK => ⟨hc.1, hc.2, .inl v, h', q1, hK⟩⟩
    · cases e
  · cases e
theorem cRc_1 {n t : Nat} (R : cRel b s h) (e : cRc n t st s = true) : xm_rcv n t st h := by
  unfold cRc at e
  split at e
  · rename_i a ha
    split at e
    · rename_i κ hκ
      have := (R.kd hκ).1
      exact ⟨a, ha, by rw [this]; exact eq_of_beq e⟩
    · cases e
  · cases e
set_option maxHeartbeats 1000000 in
theorem cS_ok (hC : cOk b C call) (R : cRel b s h) (hS : cS call e pc ls st s = some (pc', ls', st', s')) : ∃ h', cRel b s' h' ∧ ∀ (K : xm_P) (Q : xm_O → xm_H → Prop), K pc' ls' st' h' → xm_F1 C M e pc ls st h K Q := by
  obtain ⟨i, mk, pl, cv⟩ := e
  cases i
  all_goals (try (cases hS; done))
  case iconst n =>
    cases hS
    refine ⟨h, R, fun K Q hK => ?_⟩
    exact ⟨trivial, hK⟩
  case bipush n =>
    cases hS
    refine ⟨h, R, fun K Q hK => ?_⟩
    exact ⟨trivial, hK⟩
  case sipush n =>
    cases hS
    refine ⟨h, R, fun K Q hK => ?_⟩
    exact ⟨trivial, hK⟩
  case ldc n =>
    cases hS
    refine ⟨h, R, fun K Q hK => ?_⟩
    exact ⟨trivial, hK⟩
  case aload_n k =>
    simp only [cS] at hS
    split at hS
    · rename_i a ha
      cases hS
      refine ⟨h, R, fun K Q hK => ?_⟩
      simp only [xm_F1, xm_G, xm_gl, ha, xm_ok]
      exact ⟨trivial, hK⟩
    · cases hS
  case iload_n k =>
    simp only [cS] at hS
    split at hS
    · rename_i a ha
      cases hS
      refine ⟨h, R, fun K Q hK => ?_⟩
      simp only [xm_F1, xm_G, xm_gl, ha, xm_ok]
      exact ⟨trivial, hK⟩
    · cases hS
  case astore_n k =>
    simp only [cS] at hS
    split at hS
    · split at hS
      · rename_i hl
        cases hS
        refine ⟨h, R, fun K Q hK => ?_⟩
        simp only [xm_F1, xm_G, xm_pl]
        exact ⟨hl, hK⟩
      · cases hS
    · cases hS
  case astore k =>
    simp only [cS] at hS
    split at hS
    · split at hS
      · rename_i hl
        cases hS
        refine ⟨h, R, fun K Q hK => ?_⟩
        simp only [xm_F1, xm_G, xm_pl]
        exact ⟨hl, hK⟩
      · cases hS
    · cases hS
  case istore_n k =>
    simp only [cS] at hS
    split at hS
    · split at hS
      · rename_i hl
        cases hS
        refine ⟨h, R, fun K Q hK => ?_⟩
        simp only [xm_F1, xm_G, xm_pl]
        exact ⟨hl, hK⟩
      · cases hS
    · cases hS
  case istore k =>
    simp only [cS] at hS
    split at hS
    · split at hS
      · rename_i hl
        cases hS
        refine ⟨h, R, fun K Q hK => ?_⟩
        simp only [xm_F1, xm_G, xm_pl]
        exact ⟨hl, hK⟩
      · cases hS
    · cases hS
  case iinc k n =>
    simp only [cS] at hS
    split at hS
    · rename_i x hx
      split at hS
      · rename_i hl
        cases hS
        refine ⟨h, R, fun K Q hK => ?_⟩
        simp only [xm_F1, xm_G, hx]
        exact ⟨hl, hK⟩
      · cases hS
    · cases hS
  case iadd =>
    simp only [cS] at hS
    split at hS
    · cases hS
      refine ⟨h, R, fun K Q hK => ?_⟩
      simp only [xm_F1, xm_G, xm_ii, xm_ok]
      exact ⟨trivial, hK⟩
    · cases hS
  case imul =>
    simp only [cS] at hS
    split at hS
    · cases hS
      refine ⟨h, R, fun K Q hK => ?_⟩
      simp only [xm_F1, xm_G, xm_ii, xm_ok]
      exact ⟨trivial, hK⟩
    · cases hS
  case dup =>
    simp only [cS] at hS
    split at hS
    · cases hS
      refine ⟨h, R, fun K Q hK => ?_⟩
      simp only [xm_F1, xm_G]
      exact ⟨rfl, hK⟩
    · cases hS
  case goto n =>
    cases hS
    refine ⟨h, R, fun K Q hK => ?_⟩
    exact ⟨trivial, hK⟩
  case ifCond c n =>
    simp only [cS] at hS
    split at hS
    · cases hS
      refine ⟨h, R, fun K Q hK => ?_⟩
      simp only [xm_F1, xm_G, xm_ok]
      exact ⟨trivial, hK⟩
    · cases hS
  case if_icmp c n =>
    simp only [cS] at hS
    split at hS
    · cases hS
      refine ⟨h, R, fun K Q hK => ?_⟩
      simp only [xm_F1, xm_G, xm_ok]
      exact ⟨trivial, hK⟩
    · cases hS
  case getstatic n =>
    simp only [cS] at hS
    split at hS
    · rename_i h0
      cases hS
      refine ⟨h, R, fun K Q hK => ?_⟩
      simp only [xm_F1, xm_G, h0, xm_ok]
      exact ⟨trivial, hK⟩
    · cases hS
  case new n =>
    simp only [cS] at hS
    split at hS
    · rename_i h0
      cases hS
      refine ⟨_, R.nw, fun K Q hK => ?_⟩
      simp only [xm_F1, xm_G, h0, xm_ok]
      rw [R.1]
      exact ⟨trivial, hK⟩
    · cases hS
  case newarray n =>
    simp only [cS] at hS
    split at hS
    · split at hS
      · rename_i hl
        cases hS
        refine ⟨_, R.nw, fun K Q hK => ?_⟩
        simp only [xm_F1, xm_G]
        rw [R.1]
        exact ⟨hl, hK⟩
      · cases hS
    · cases hS
  case anewarray n =>
    simp only [cS] at hS
    split at hS
    · split at hS
      · rename_i hl
        cases hS
        refine ⟨_, R.nw, fun K Q hK => ?_⟩
        simp only [xm_F1, xm_G]
        rw [R.1]
        exact ⟨hl, hK⟩
      · cases hS
    · cases hS
  case putfield n =>
    simp only [cS] at hS
    split at hS
    · split at hS
      · rename_i x a r κ hκ
        split at hS
        · rename_i hc
          cases hS
          obtain ⟨k1, k2, k3⟩ := R.kd hκ
          rcases hc.2 with h0 | ⟨h2, hx⟩
          · simp only [xm_F1, xm_G, h0, xm_pf]
            refine ⟨_, (R.si k2 k3), fun K Q hK => ?_⟩
            exact ⟨⟨by rw [k1]; exact hc.1, k2, trivial⟩, hK⟩
          · subst hx
            refine ⟨_, (R.si k2 k3), fun K Q hK => ?_⟩
            simp only [xm_F1, xm_G, h2, xm_pf]
            exact ⟨⟨by rw [k1]; exact hc.1, k2, by decide⟩, hK⟩
        · cases hS
      · cases hS
    · split at hS
      · rename_i c a r κ hκ
        split at hS
        · rename_i hc
          cases hS
          obtain ⟨k1, k2, k3⟩ := R.kd hκ
          refine ⟨_, (R.sr k2 k3), fun K Q hK => ?_⟩
          simp only [xm_F1, xm_G, hc.2, xm_pf]
          exact ⟨⟨by rw [k1]; exact hc.1, k2, trivial⟩, hK⟩
        · cases hS
      · cases hS
    · cases hS
  case getfield n =>
    simp only [cS] at hS
    split at hS
    · split at hS
      · rename_i a r _ κ hκ
        obtain ⟨k1, k2, k3⟩ := R.kd hκ
        split at hS
        · rename_i hc
          split at hS
          · rename_i h6
            split at hS
            · rename_i c hr
              cases hS
              have q := (R.2.2.2.1 a (xm_p0 pl 1) k2 k3).1
              refine ⟨h, R, fun K Q hK => ?_⟩
              rw [hr] at q
              simp only [xm_F1, xm_G, h6, xm_get, q]
              exact ⟨by rw [k1]; exact hc, hK⟩
            · cases hS
          · split at hS
            · rename_i h0
              cases hS
              have q := (R.2.2.2.1 a (xm_p0 pl 1) k2 k3).2.1
              refine ⟨h, R, fun K Q hK => ?_⟩
              simp only [xm_F1, xm_G, h0, xm_get, q]
              exact ⟨by rw [k1]; exact hc, hK⟩
            · cases hS
        · cases hS
      · cases hS
    · cases hS
  case iastore =>
    simp only [cS] at hS
    split at hS
    · split at hS
      · rename_i x j a r _ κ hκ
        obtain ⟨k1, k2, k3⟩ := R.kd hκ
        split at hS
        · rename_i hc
          cases hS
          refine ⟨_, (R.si k2 k3), fun K Q hK => ?_⟩
          simp only [xm_F1, xm_G, xm_as]
          exact ⟨⟨by rw [k1]; exact hc.1, by rw [k1]; exact hc.2, k2⟩, hK⟩
        · cases hS
      · cases hS
    · cases hS
  case iaload =>
    simp only [cS] at hS
    split at hS
    · split at hS
      · rename_i j a r _ κ hκ
        obtain ⟨k1, k2, k3⟩ := R.kd hκ
        split at hS
        · rename_i hc
          cases hS
          have q := (R.2.2.2.1 a j.toNatClampNeg k2 k3).2.1
          refine ⟨h, R, fun K Q hK => ?_⟩
          simp only [xm_F1, xm_G, xm_al, xm_get, q]
          exact ⟨⟨by rw [k1]; exact hc.1, by rw [k1]; exact hc.2⟩, hK⟩
        · cases hS
      · cases hS
    · cases hS
  case laload =>
    simp only [cS] at hS
    split at hS
    · split at hS
      · rename_i j a r _ κ hκ
        obtain ⟨k1, k2, k3⟩ := R.kd hκ
        split at hS
        · rename_i hc
          cases hS
          have q := (R.2.2.2.1 a j.toNatClampNeg k2 k3).2.2
          refine ⟨h, R, fun K Q hK => ?_⟩
          simp only [xm_F1, xm_G, xm_al, xm_get, q]
          exact ⟨⟨by rw [k1]; exact hc.1, by rw [k1]; exact hc.2⟩, hK⟩
        · cases hS
      · cases hS
    · cases hS
  case lastore =>
    simp only [cS] at hS
    split at hS
    · split at hS
      · rename_i x j a r _ κ hκ
        obtain ⟨k1, k2, k3⟩ := R.kd hκ
        split at hS
        · rename_i hc
          obtain ⟨hc1, hc2, hc3⟩ := hc
          subst hc3
          cases hS
          refine ⟨_, R.sl (a := a) (k := j.toNatClampNeg), fun K Q hK => ?_⟩
          simp only [xm_F1, xm_G]
          exact ⟨⟨by rw [k1]; exact hc1, by rw [k1]; exact hc2, k2⟩, hK⟩
        · cases hS
      · cases hS
    · cases hS
  case aaload =>
    simp only [cS] at hS
    split at hS
    · split at hS
      · rename_i j a r _ κ hκ
        obtain ⟨k1, k2, k3⟩ := R.kd hκ
        split at hS
        · rename_i hc
          split at hS
          · rename_i c hr
            cases hS
            have q := (R.2.2.2.1 a j.toNatClampNeg k2 k3).1
            refine ⟨h, R, fun K Q hK => ?_⟩
            rw [hr] at q
            simp only [xm_F1, xm_G, xm_al, xm_get, q]
            exact ⟨⟨by rw [k1]; exact hc.1, by rw [k1]; exact hc.2⟩, hK⟩
          · cases hS
        · cases hS
      · cases hS
    · cases hS
  case aastore =>
    simp only [cS] at hS
    split at hS
    · split at hS
      · rename_i c j a r _ _ κ κ' hκ hκ'
        obtain ⟨k1, k2, k3⟩ := R.kd hκ
        obtain ⟨k4, k5, k6⟩ := R.kd hκ'
        split at hS
        · rename_i hc
          cases hS
          refine ⟨_, (R.sr k2 k3), fun K Q hK => ?_⟩
          simp only [xm_F1, xm_G]
          exact ⟨⟨by rw [k1]; exact hc.1, by rw [k1]; exact hc.2.1, k2, by rw [k4]; exact hc.2.2, k5⟩, hK⟩
        · cases hS
      · cases hS
    · cases hS
  case invokespecial n =>
    simp only [cS] at hS
    split at hS
    · rename_i h8
      split at hS
      · split at hS
        · rename_i hl
          cases hS
          refine ⟨h, R, fun K Q hK => ?_⟩
          simp only [xm_F1, xm_G, xm_X, h8]
          exact ⟨hl, hK⟩
        · cases hS
      · cases hS
    · split at hS
      · rename_i _ h2
        split at hS
        · rename_i hr
          rcases h2 with h2 | h2 | h2
          · obtain ⟨g2, q1, q2⟩ := cCl_1 hC R hS
            refine ⟨g2, q1, fun K Q hK => ?_⟩
            simp only [xm_F1, xm_G, xm_X, h2]
            exact ⟨cRc_1 R hr, q2 K hK⟩
          · obtain ⟨g2, q1, q2⟩ := cCl_1 hC R hS
            refine ⟨g2, q1, fun K Q hK => ?_⟩
            simp only [xm_F1, xm_G, xm_X, h2]
            exact ⟨cRc_1 R hr, q2 K hK⟩
          · obtain ⟨g2, q1, q2⟩ := cCl_1 hC R hS
            refine ⟨g2, q1, fun K Q hK => ?_⟩
            simp only [xm_F1, xm_G, xm_X, h2]
            exact ⟨cRc_1 R hr, q2 K hK⟩
        · cases hS
      · cases hS
  case invokevirtual n =>
    simp only [cS] at hS
    split at hS
    · rename_i h2
      split at hS
      · rename_i hr
        rcases h2 with h2 | h2
        · obtain ⟨g2, q1, q2⟩ := cCl_2 hC R hS
          refine ⟨g2, q1, fun K Q hK => ?_⟩
          simp only [xm_F1, xm_G, xm_X, h2]
          exact ⟨cRc_1 R hr, q2 K Q hK⟩
        · obtain ⟨g2, q1, q2⟩ := cCl_1 hC R hS
          refine ⟨g2, q1, fun K Q hK => ?_⟩
          simp only [xm_F1, xm_G, xm_X, h2]
          exact ⟨cRc_1 R hr, q2 K hK⟩
      · cases hS
    · cases hS
end Cs
