/-! no run writes a constant -/
def xm_co (h h' : xm_H) : Prop := 160 ≤ xm_n h → 160 ≤ xm_n h' ∧ ∀ a, a < 160 → xm_k h' a = xm_k h a ∧ ∀ j, xm_i h' a j = xm_i h a j
theorem xm_co.rf {h : xm_H} : xm_co h h := fun n => ⟨n, fun _ _ => ⟨rfl, fun _ => rfl⟩⟩
theorem xm_co.tr {a b c : xm_H} (h1 : xm_co a b) (h2 : xm_co b c) : xm_co a c := fun n => by
  obtain ⟨n1, p1⟩ := h1 n
  obtain ⟨n2, p2⟩ := h2 n1
  exact ⟨n2, fun i hi => ⟨((p2 i hi).1).trans (p1 i hi).1, fun j => ((p2 i hi).2 j).trans ((p1 i hi).2 j)⟩⟩
theorem xm_co.nw (h : xm_H) (κ : Nat × Nat) : xm_co h (xm_new h κ) := fun n => ⟨Nat.le_succ_of_le n, fun a ha => ⟨if_neg (Nat.ne_of_lt (Nat.lt_of_lt_of_le ha n)), fun j => if_neg (Nat.ne_of_lt (Nat.lt_of_lt_of_le ha n))⟩⟩
theorem xm_co.si {h : xm_H} {a k : Nat} {v : Int32} (ha : xK ≤ a) : xm_co h (xm_si h a k v) := fun n => ⟨n, fun b hb => ⟨rfl, fun j => xi_ne (by have h2 : 160 ≤ a := ha; omega)⟩⟩
theorem xm_co.cp {h : xm_H} {a p b q m : Nat} (hb : xK ≤ b) : xm_co h (xm_cp h a p b q m) := fun n => ⟨n, fun c hc => ⟨rfl, fun j => if_neg (fun z => by have h2 : 160 ≤ b := hb; omega)⟩⟩
theorem xm_G_co {i : Instr} {pl : List Nat} {cv : Value} {pc : Nat} {ls : xm_L} {st : List Value} {h : xm_H} {q : Prop × Nat × xm_L × List Value × xm_H} (hG : xm_G i pl cv pc ls st h = some q) (hq0 : q.1) : xm_co h q.2.2.2.2 := by
  have rf : xm_co h h := xm_co.rf
  cases i
  all_goals (try (cases hG; done))
  all_goals (try (simp only [xm_G, xm_ok, Option.some.injEq] at hG; subst hG; exact rf))
  all_goals (try (obtain ⟨v, hv, hq, -⟩ := xm_gl_spec hG; subst hq; exact rf))
  all_goals (try (obtain ⟨v, r, -, hc⟩ := xm_pl_spec hG; rcases hc with ⟨-, -, hq⟩ | ⟨-, -, hq⟩ | ⟨-, -, hq⟩ | ⟨-, -, hq⟩ | ⟨-, -, hq⟩ <;> (subst hq; exact rf)))
  all_goals (simp only [xm_G, xm_ii, xm_id, xm_i1, xm_ll, xm_ldd, xm_dd, xm_al, xm_as, xm_ok] at hG)
  all_goals (repeat' (split at hG))
  all_goals (first | (cases hG; done) | skip)
  all_goals (try (simp only [Option.some.injEq] at hG; subst hG; first | exact rf | exact xm_co.nw _ _ | exact xm_co.si hq0.2.2 | skip))
  all_goals (
    rename_i hpf
    dsimp only
    unfold xm_pf at hpf
    split at hpf <;> first | (cases hpf; done) | (simp only [Option.some.injEq, Prod.mk.injEq] at hpf; obtain ⟨-, rfl⟩ := hpf; first | exact rf | exact xm_co.si hq0.2.1))
theorem xm_W_co {C : xm_Cl} (hC : ∀ y as h o h', C y as h o h' → xm_co h h') {M : xm_M} {Q : xm_O → xm_H → Prop} {hE : xm_H} (hQ : ∀ o h, Q o h → xm_co h hE) {pc : Nat} {ls : xm_L} {st : List Value} {h : xm_H} (hw : xm_W C M Q pc ls st h) : xm_co h hE := by
  refine hw (fun _ _ _ h => xm_co h hE) ?_
  clear hw pc ls st h
  intro pc ls st h hF
  unfold xm_F at hF
  split at hF
  · unfold xm_F1 at hF
    split at hF
    · rename_i c2 hG
      exact (xm_G_co hG hF.1).tr hF.2
    · have b1 : ∀ {y n : Nat} {ls : xm_L}, xm_inv C M y n pc ls st h (fun _ _ _ h => xm_co h hE) Q → xm_co h hE := fun q => by
        obtain ⟨-, -, o, h', q1, q2⟩ := q
        refine (hC _ _ _ _ _ q1).tr ?_
        unfold xm_back at q2
        split at q2
        · exact q2
        · split at q2
          · exact q2
          · exact hQ _ _ q2
      have b2 : ∀ {y n : Nat} {ls : xm_L}, xm_in1 C y n pc ls st h (fun _ _ _ h => xm_co h hE) → xm_co h hE := fun q => by
        obtain ⟨-, -, v, h', q1, q2⟩ := q
        exact (hC _ _ _ _ _ q1).tr q2
      unfold xm_X at hF
      split at hF
      · split at hF
        · exact b1 hF
        · exact b2 hF
        · exact b2 hF
        · split at hF
          · obtain ⟨-, -, -, q4, -, -, -, -, -, -, k⟩ := hF
            exact (xm_co.cp q4).tr k
          · exact hF.elim
        · split at hF
          · exact hF.2
          · exact hF.elim
        · split at hF
          · exact hF.2
          · exact hF.elim
        · exact hF.elim
      · split at hF
        · exact b1 hF.2
        · exact b2 hF.2
        · exact hF.elim
      · split at hF
        · exact b2 hF.2
        · exact b2 hF.2
        · exact b2 hF.2
        · split at hF
          · exact hF.2
          · exact hF.elim
        · exact hF.elim
      · split at hF
        · exact hQ _ _ hF.2
        · exact hF.elim
      · split at hF
        · exact hQ _ _ hF
        · exact hF.elim
      · split at hF
        · exact hQ _ _ hF
        · exact hQ _ _ hF
        · exact hF.elim
      · split at hF
        · exact hQ _ _ hF
        · exact hF.elim
      · split at hF
        · exact hF.elim
        · exact (xm_co.nw _ _).tr (hQ _ _ hF.2)
      · exact hF .null (Or.inl rfl)
      · exact hF.elim
  · exact hF.elim
theorem xm_Rn_co {X : List xm_M} : ∀ (d y : Nat) (as : List Value) (h : xm_H) (o : xm_O) (h' : xm_H), xm_Rn X d y as h o h' → xm_co h h' := by
  intro d
  induction d with
  | zero => intro y as h o h' hr; exact hr.elim
  | succ d ih =>
    intro y as h o h' hr
    obtain ⟨M, hM, hl, hw⟩ := hr
    exact xm_W_co ih (fun o1 h1 hq => by rw [hq.2]; exact xm_co.rf) hw
