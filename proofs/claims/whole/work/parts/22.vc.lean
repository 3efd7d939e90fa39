/-! programs as functions: combinators; steps of the little machine led by a function's value -/
def xl {α β : Type} (a : α) (k : α → β) : β := k a
def xb {α β : Type} (r : Option (α × xm_H)) (k : α → xm_H → Option β) : Option β := match r with
  | some q => k q.1 q.2
  | none => none
def xe {α β : Type} (r : Option ((α ⊕ Nat × Nat) × xm_H)) (k : α → xm_H → Option β) (x : Nat × Nat → xm_H → Option β) : Option β := match r with
  | some (.inl v, h) => k v h
  | some (.inr q, h) => x q h
  | none => none
def xbr {β : Type} (r : Option Nat) (k : Nat → Option β) : Option β := match r with
  | some a => k a
  | none => none
theorem xb_some {α β : Type} {v : α} {h : xm_H} {k : α → xm_H → Option β} : xb (some (v, h)) k = k v h := rfl
theorem xe_inl {α β : Type} {v : α} {h : xm_H} {k : α → xm_H → Option β} {x : Nat × Nat → xm_H → Option β} : xe (some (.inl v, h)) k x = k v h := rfl
theorem xe_inr {α β : Type} {q : Nat × Nat} {h : xm_H} {k : α → xm_H → Option β} {x : Nat × Nat → xm_H → Option β} : xe (some (.inr q, h)) k x = x q h := rfl
theorem xbr_some {β : Type} {a : Nat} {k : Nat → Option β} : xbr (some a) k = k a := rfl
theorem xl_e {α β : Type} {a b : α} {k : α → β} {r : β} (e : b = a) (hf : xl a k = r) : k b = r := by
  subst e
  exact hf
theorem xb_e {α β : Type} {r : Option (α × xm_H)} {k : α → xm_H → Option β} {q : β} {P : Prop} (hf : xb r k = some q) (hk : ∀ v h, r = some (v, h) → k v h = some q → P) : P := by
  unfold xb at hf
  split at hf
  · rename_i z
    exact hk z.1 z.2 rfl hf
  · cases hf
theorem xe_e {α β : Type} {r : Option ((α ⊕ Nat × Nat) × xm_H)} {k : α → xm_H → Option β} {x : Nat × Nat → xm_H → Option β} {q : β} {P : Prop} (hf : xe r k x = some q) (hk : ∀ v h, r = some (.inl v, h) → k v h = some q → P) (hx : ∀ z h, r = some (.inr z, h) → x z h = some q → P) : P := by
  unfold xe at hf
  split at hf
  · exact hk _ _ rfl hf
  · exact hx _ _ rfl hf
  · cases hf
theorem xbr_e {β : Type} {r : Option Nat} {k : Nat → Option β} {q : β} {P : Prop} (hf : xbr r k = some q) (hk : ∀ a, r = some a → k a = some q → P) : P := by
  unfold xbr at hf
  split at hf
  · exact hk _ rfl hf
  · cases hf
theorem xg_e {β : Type} {c : Prop} {q : β} {k : Option β} {P : Prop} {d : Decidable c} (hf : (@ite (Option β) c d k none) = some q) (hk : c → k = some q → P) : P := by
  by_cases hc : c
  · rw [if_pos hc] at hf
    exact hk hc hf
  · rw [if_neg hc] at hf
    cases hf
theorem xn_e {β : Type} {q : β} (hf : (none : Option β) = some q) : False := by cases hf
abbrev xin (j : Int32) (n : Nat) : Prop := ¬ (j < 0 ∨ n ≤ j.toNatClampNeg)
/-- outcomes by result sort -/
def xjv (_ : Unit) : xm_O := .inl none
def xji (v : Int32) : xm_O := .inl (some (.int v))
def xjd (v : UInt64) : xm_O := .inl (some (.double v))
def xjr (v : Nat) : xm_O := .inl (some (.ref v))
def xtv (v : Unit ⊕ Nat × Nat) : xm_O := match v with
  | .inl _ => .inl none
  | .inr q => .inr q
def xti (v : Int32 ⊕ Nat × Nat) : xm_O := match v with
  | .inl v => .inl (some (.int v))
  | .inr q => .inr q
def xtd (v : UInt64 ⊕ Nat × Nat) : xm_O := match v with
  | .inl v => .inl (some (.double v))
  | .inr q => .inr q
/-- some outcome is reached -/
theorem xm_W_ex {C : xm_Cl} {M : xm_M} {Q : xm_O → xm_H → Prop} {pc : Nat} {ls : xm_L} {st : List Value} {h : xm_H} (hw : xm_W C M Q pc ls st h) : ∃ o h', Q o h' := by
  refine hw (fun _ _ _ _ => ∃ o h', Q o h') ?_
  intro pc ls st h hF
  unfold xm_F at hF
  split at hF
  · unfold xm_F1 at hF
    split at hF
    · exact hF.2
    · unfold xm_X at hF
      have hinv : ∀ {M : xm_M} {y n pc : Nat} {ls : xm_L} {st : List Value} {h : xm_H}, xm_inv C M y n pc ls st h (fun _ _ _ _ => ∃ o h', Q o h') Q → ∃ o h', Q o h' := by
        intro M y n pc ls st h hb
        obtain ⟨_, _, o, h', _, h4⟩ := hb
        unfold xm_back at h4
        split at h4
        · exact h4
        · split at h4
          · exact h4
          · exact ⟨_, _, h4⟩
      have hin1 : ∀ {y n pc : Nat} {ls : xm_L} {st : List Value} {h : xm_H}, xm_in1 C y n pc ls st h (fun _ _ _ _ => ∃ o h', Q o h') → ∃ o h', Q o h' := by
        intro y n pc ls st h hb
        obtain ⟨_, _, o, h', _, h4⟩ := hb
        exact h4
      split at hF
      · split at hF
        · exact hinv hF
        · exact hin1 hF
        · exact hin1 hF
        · split at hF
          · obtain ⟨a0, a1, a2, a3, a4, a5, a6, a7, a8, a9, k⟩ := hF
            exact k
          · exact hF.elim
        · split at hF
          · exact hF.2
          · exact hF.elim
        · split at hF
          · exact hF.2
          · exact hF.elim
        · exact hF.elim
      · split at hF
        · exact hinv hF.2
        · exact hin1 hF.2
        · exact hF.elim
      · split at hF
        · exact hin1 hF.2
        · exact hin1 hF.2
        · exact hin1 hF.2
        · split at hF
          · exact hF.2
          · exact hF.elim
        · exact hF.elim
      · split at hF
        · exact ⟨_, _, hF.2⟩
        · exact hF.elim
      · split at hF
        · exact ⟨_, _, hF⟩
        · exact hF.elim
      · split at hF
        · exact ⟨_, _, hF⟩
        · exact ⟨_, _, hF⟩
        · exact hF.elim
      · split at hF
        · exact ⟨_, _, hF⟩
        · exact hF.elim
      · split at hF
        · exact hF.elim
        · exact ⟨_, _, hF.2⟩
      · exact hF .null (Or.inl rfl)
      · exact hF.elim
  · exact hF.elim
theorem xt_mk {X : List xm_M} {d y : Nat} {M : xm_M} {as : List Value} {ls : xm_L} {h : xm_H} {o : xm_O} {h' : xm_H} {φ : xm_H → Prop} (hM : X[y]? = some M) (hl : (xm_av as).length ≤ M.2.2.2.2.1) (he : xm_en M.2.2.2.2.1 as = ls) (hw : ∀ Q : xm_O → xm_H → Prop, (φ h' → Q o h') → xm_W (xm_Rn X d) M Q 0 ls [] h) : xm_Rn X (d + 1) y as h o h' ∧ φ h' := by
  subst he
  by_cases hφ : φ h'
  · exact ⟨⟨M, hM, hl, hw _ (fun _ => ⟨rfl, rfl⟩)⟩, hφ⟩
  · obtain ⟨_, _, hq⟩ := xm_W_ex (hw (fun _ _ => False) (fun z => (hφ z).elim))
    exact hq.elim
/-- fixed cells of two sorts that lie at several places -/
abbrev xIsR (v : Nat) : Prop := v = 164 ∨ v = 183
def xIsS (v : Nat) : Prop := v = 201 ∨ v = 220 ∨ ∃ j, j < 8 ∧ v = 236 + 8 * j
def xIsT (v : Nat) : Prop := ∃ r j, xIsR r ∧ j < 6 ∧ v = r + 3 + j
def xIsC (v : Nat) : Prop := ∃ r j, xIsR r ∧ j < 8 ∧ v = r + 10 + j
/-- the shape, with the rules in force at ρ and the draft at δ -/
def xS (ρ δ : Nat) (h : xm_H) : Prop := xSh h ∧ xIsR ρ ∧ xIsR δ ∧ xm_r h 182 0 = some ρ ∧ xm_r h 161 3 = some δ
section Shape
variable {ρ δ : Nat} {h h1 : xm_H}
theorem xs_k (hS : xS ρ δ h) {i : Nat} {κ : Nat × Nat} (e : (Nat.ble 160 i && Nat.ble (i + 1) 318) = true) (e2 : xKD i = κ) : xm_k h i = κ := by
  rw [Bool.and_eq_true] at e
  rw [hS.1.k i (Nat.le_of_ble_eq_true e.1) (Nat.le_of_ble_eq_true e.2), e2]
theorem xs_r (hS : xS ρ δ h) {a k b : Nat} (e : xRD a k = some b) : xm_r h a k = some b := hS.1.r e
theorem xs_rho (hS : xS ρ δ h) : xm_r h 182 0 = some ρ := hS.2.2.2.1
theorem xs_del (hS : xS ρ δ h) : xm_r h 161 3 = some δ := hS.2.2.2.2
theorem xs_R (hS : xS ρ δ h) : xIsR ρ := hS.2.1
theorem xs_D (hS : xS ρ δ h) : xIsR δ := hS.2.2.1
theorem xkf {a t n : Nat} (e : xm_k h a = (t, n)) : (xm_k h a).1 = t := by rw [e]
theorem xkn {a t n : Nat} (e : xm_k h a = (t, n)) : (xm_k h a).2 = n := by rw [e]
theorem xIsR.ge {v : Nat} (hv : xIsR v) (n : Nat) : xK ≤ v + n := by
  show 160 ≤ v + n
  rcases hv with rfl | rfl <;> omega
theorem xIsS.ge {v : Nat} (hv : xIsS v) (n : Nat) : xK ≤ v + n := by
  show 160 ≤ v + n
  rcases hv with rfl | rfl | ⟨j, _, rfl⟩ <;> omega
theorem xIsT.ge {v : Nat} (hv : xIsT v) : xK ≤ v := by
  show 160 ≤ v
  obtain ⟨r, j, hr, _, rfl⟩ := hv
  rcases hr with rfl | rfl <;> omega
theorem xIsC.ge {v : Nat} (hv : xIsC v) : xK ≤ v := by
  show 160 ≤ v
  obtain ⟨r, j, hr, _, rfl⟩ := hv
  rcases hr with rfl | rfl <;> omega
theorem xin_lt {j : Int32} {n : Nat} (hj : xin j n) : j.toNatClampNeg < n := by
  have := not_or.mp hj
  omega
theorem xIsS_ring {j : Int32} (hj : xin j 8) : xIsS (236 + 8 * j.toNatClampNeg) := Or.inr (Or.inr ⟨_, xin_lt hj, rfl⟩)
theorem xIsT_mk {v : Nat} {j : Int32} (hv : xIsR v) (hj : xin j 6) : xIsT (v + 3 + j.toNatClampNeg) := ⟨v, _, hv, xin_lt hj, rfl⟩
theorem xIsC_mk {v : Nat} {j : Int32} (hv : xIsR v) (hj : xin j 8) : xIsC (v + 10 + j.toNatClampNeg) := ⟨v, _, hv, xin_lt hj, rfl⟩
theorem xsRing (hS : xS ρ δ h) {j : Int32} (hj : xin j 8) : xm_r h 235 j.toNatClampNeg = some (236 + 8 * j.toNatClampNeg) := by
  have h1 := xin_lt hj
  revert h1
  generalize j.toNatClampNeg = n
  intro h1
  match n, h1 with

  | 0, _ => exact hS.1.r rfl
  | 1, _ => exact hS.1.r rfl
  | 2, _ => exact hS.1.r rfl
  | 3, _ => exact hS.1.r rfl
  | 4, _ => exact hS.1.r rfl
  | 5, _ => exact hS.1.r rfl
  | 6, _ => exact hS.1.r rfl
  | 7, _ => exact hS.1.r rfl
theorem xsTag (hS : xS ρ δ h) {v : Nat} {j : Int32} (hv : xIsR v) (hj : xin j 6) : xm_r h (v + 2) j.toNatClampNeg = some (v + 3 + j.toNatClampNeg) := by
  have h1 := xin_lt hj
  revert h1
  generalize j.toNatClampNeg = n
  intro h1
  rcases hv with rfl | rfl
  · match n, h1 with
    | 0, _ => exact hS.1.r rfl
    | 1, _ => exact hS.1.r rfl
    | 2, _ => exact hS.1.r rfl
    | 3, _ => exact hS.1.r rfl
    | 4, _ => exact hS.1.r rfl
    | 5, _ => exact hS.1.r rfl
  · match n, h1 with
    | 0, _ => exact hS.1.r rfl
    | 1, _ => exact hS.1.r rfl
    | 2, _ => exact hS.1.r rfl
    | 3, _ => exact hS.1.r rfl
    | 4, _ => exact hS.1.r rfl
    | 5, _ => exact hS.1.r rfl
theorem xsCam (hS : xS ρ δ h) {v : Nat} {j : Int32} (hv : xIsR v) (hj : xin j 8) : xm_r h (v + 9) j.toNatClampNeg = some (v + 10 + j.toNatClampNeg) := by
  have h1 := xin_lt hj
  revert h1
  generalize j.toNatClampNeg = n
  intro h1
  rcases hv with rfl | rfl
  · match n, h1 with
    | 0, _ => exact hS.1.r rfl
    | 1, _ => exact hS.1.r rfl
    | 2, _ => exact hS.1.r rfl
    | 3, _ => exact hS.1.r rfl
    | 4, _ => exact hS.1.r rfl
    | 5, _ => exact hS.1.r rfl
    | 6, _ => exact hS.1.r rfl
    | 7, _ => exact hS.1.r rfl
  · match n, h1 with
    | 0, _ => exact hS.1.r rfl
    | 1, _ => exact hS.1.r rfl
    | 2, _ => exact hS.1.r rfl
    | 3, _ => exact hS.1.r rfl
    | 4, _ => exact hS.1.r rfl
    | 5, _ => exact hS.1.r rfl
    | 6, _ => exact hS.1.r rfl
    | 7, _ => exact hS.1.r rfl
theorem xsR0 (hS : xS ρ δ h) {v : Nat} (hv : xIsR v) : xm_k h v = (7, 0) := by
  rcases hv with rfl | rfl <;> exact xs_k hS rfl rfl
theorem xsR1 (hS : xS ρ δ h) {v : Nat} (hv : xIsR v) : xm_k h (v + 1) = (100, 4) := by
  rcases hv with rfl | rfl <;> exact xs_k hS rfl rfl
theorem xsR2 (hS : xS ρ δ h) {v : Nat} (hv : xIsR v) : xm_k h (v + 2) = (107, 6) := by
  rcases hv with rfl | rfl <;> exact xs_k hS rfl rfl
theorem xsR9 (hS : xS ρ δ h) {v : Nat} (hv : xIsR v) : xm_k h (v + 9) = (106, 8) := by
  rcases hv with rfl | rfl <;> exact xs_k hS rfl rfl
theorem xsRr2 (hS : xS ρ δ h) {v : Nat} (hv : xIsR v) : xm_r h v 2 = some (v + 1) := by
  rcases hv with rfl | rfl <;> exact xs_r hS rfl
theorem xsRr4 (hS : xS ρ δ h) {v : Nat} (hv : xIsR v) : xm_r h v 4 = some (v + 2) := by
  rcases hv with rfl | rfl <;> exact xs_r hS rfl
theorem xsRr6 (hS : xS ρ δ h) {v : Nat} (hv : xIsR v) : xm_r h v 6 = some (v + 9) := by
  rcases hv with rfl | rfl <;> exact xs_r hS rfl
theorem xsS0 (hS : xS ρ δ h) {v : Nat} (hv : xIsS v) : xm_k h v = (8, 0) := by
  rcases hv with rfl | rfl | ⟨j, hj, rfl⟩
  · exact xs_k hS rfl rfl
  · exact xs_k hS rfl rfl
  · match j, hj with
    | 0, _ => exact xs_k hS rfl rfl
    | 1, _ => exact xs_k hS rfl rfl
    | 2, _ => exact xs_k hS rfl rfl
    | 3, _ => exact xs_k hS rfl rfl
    | 4, _ => exact xs_k hS rfl rfl
    | 5, _ => exact xs_k hS rfl rfl
    | 6, _ => exact xs_k hS rfl rfl
    | 7, _ => exact xs_k hS rfl rfl
theorem xsS1 (hS : xS ρ δ h) {v : Nat} (hv : xIsS v) : xm_k h (v + 1) = (100, 6) := by
  rcases hv with rfl | rfl | ⟨j, hj, rfl⟩
  · exact xs_k hS rfl rfl
  · exact xs_k hS rfl rfl
  · match j, hj with
    | 0, _ => exact xs_k hS rfl rfl
    | 1, _ => exact xs_k hS rfl rfl
    | 2, _ => exact xs_k hS rfl rfl
    | 3, _ => exact xs_k hS rfl rfl
    | 4, _ => exact xs_k hS rfl rfl
    | 5, _ => exact xs_k hS rfl rfl
    | 6, _ => exact xs_k hS rfl rfl
    | 7, _ => exact xs_k hS rfl rfl
theorem xsS2 (hS : xS ρ δ h) {v : Nat} (hv : xIsS v) : xm_k h (v + 2) = (100, 8) := by
  rcases hv with rfl | rfl | ⟨j, hj, rfl⟩
  · exact xs_k hS rfl rfl
  · exact xs_k hS rfl rfl
  · match j, hj with
    | 0, _ => exact xs_k hS rfl rfl
    | 1, _ => exact xs_k hS rfl rfl
    | 2, _ => exact xs_k hS rfl rfl
    | 3, _ => exact xs_k hS rfl rfl
    | 4, _ => exact xs_k hS rfl rfl
    | 5, _ => exact xs_k hS rfl rfl
    | 6, _ => exact xs_k hS rfl rfl
    | 7, _ => exact xs_k hS rfl rfl
theorem xsS3 (hS : xS ρ δ h) {v : Nat} (hv : xIsS v) : xm_k h (v + 3) = (100, 8) := by
  rcases hv with rfl | rfl | ⟨j, hj, rfl⟩
  · exact xs_k hS rfl rfl
  · exact xs_k hS rfl rfl
  · match j, hj with
    | 0, _ => exact xs_k hS rfl rfl
    | 1, _ => exact xs_k hS rfl rfl
    | 2, _ => exact xs_k hS rfl rfl
    | 3, _ => exact xs_k hS rfl rfl
    | 4, _ => exact xs_k hS rfl rfl
    | 5, _ => exact xs_k hS rfl rfl
    | 6, _ => exact xs_k hS rfl rfl
    | 7, _ => exact xs_k hS rfl rfl
theorem xsS4 (hS : xS ρ δ h) {v : Nat} (hv : xIsS v) : xm_k h (v + 4) = (100, 8) := by
  rcases hv with rfl | rfl | ⟨j, hj, rfl⟩
  · exact xs_k hS rfl rfl
  · exact xs_k hS rfl rfl
  · match j, hj with
    | 0, _ => exact xs_k hS rfl rfl
    | 1, _ => exact xs_k hS rfl rfl
    | 2, _ => exact xs_k hS rfl rfl
    | 3, _ => exact xs_k hS rfl rfl
    | 4, _ => exact xs_k hS rfl rfl
    | 5, _ => exact xs_k hS rfl rfl
    | 6, _ => exact xs_k hS rfl rfl
    | 7, _ => exact xs_k hS rfl rfl
theorem xsS5 (hS : xS ρ δ h) {v : Nat} (hv : xIsS v) : xm_k h (v + 5) = (100, 8) := by
  rcases hv with rfl | rfl | ⟨j, hj, rfl⟩
  · exact xs_k hS rfl rfl
  · exact xs_k hS rfl rfl
  · match j, hj with
    | 0, _ => exact xs_k hS rfl rfl
    | 1, _ => exact xs_k hS rfl rfl
    | 2, _ => exact xs_k hS rfl rfl
    | 3, _ => exact xs_k hS rfl rfl
    | 4, _ => exact xs_k hS rfl rfl
    | 5, _ => exact xs_k hS rfl rfl
    | 6, _ => exact xs_k hS rfl rfl
    | 7, _ => exact xs_k hS rfl rfl
theorem xsS6 (hS : xS ρ δ h) {v : Nat} (hv : xIsS v) : xm_k h (v + 6) = (100, 8) := by
  rcases hv with rfl | rfl | ⟨j, hj, rfl⟩
  · exact xs_k hS rfl rfl
  · exact xs_k hS rfl rfl
  · match j, hj with
    | 0, _ => exact xs_k hS rfl rfl
    | 1, _ => exact xs_k hS rfl rfl
    | 2, _ => exact xs_k hS rfl rfl
    | 3, _ => exact xs_k hS rfl rfl
    | 4, _ => exact xs_k hS rfl rfl
    | 5, _ => exact xs_k hS rfl rfl
    | 6, _ => exact xs_k hS rfl rfl
    | 7, _ => exact xs_k hS rfl rfl
theorem xsS7 (hS : xS ρ δ h) {v : Nat} (hv : xIsS v) : xm_k h (v + 7) = (101, 8) := by
  rcases hv with rfl | rfl | ⟨j, hj, rfl⟩
  · exact xs_k hS rfl rfl
  · exact xs_k hS rfl rfl
  · match j, hj with
    | 0, _ => exact xs_k hS rfl rfl
    | 1, _ => exact xs_k hS rfl rfl
    | 2, _ => exact xs_k hS rfl rfl
    | 3, _ => exact xs_k hS rfl rfl
    | 4, _ => exact xs_k hS rfl rfl
    | 5, _ => exact xs_k hS rfl rfl
    | 6, _ => exact xs_k hS rfl rfl
    | 7, _ => exact xs_k hS rfl rfl
theorem xsSr4 (hS : xS ρ δ h) {v : Nat} (hv : xIsS v) : xm_r h v 4 = some (v + 1) := by
  rcases hv with rfl | rfl | ⟨j, hj, rfl⟩
  · exact xs_r hS rfl
  · exact xs_r hS rfl
  · match j, hj with
    | 0, _ => exact xs_r hS rfl
    | 1, _ => exact xs_r hS rfl
    | 2, _ => exact xs_r hS rfl
    | 3, _ => exact xs_r hS rfl
    | 4, _ => exact xs_r hS rfl
    | 5, _ => exact xs_r hS rfl
    | 6, _ => exact xs_r hS rfl
    | 7, _ => exact xs_r hS rfl
theorem xsSr5 (hS : xS ρ δ h) {v : Nat} (hv : xIsS v) : xm_r h v 5 = some (v + 2) := by
  rcases hv with rfl | rfl | ⟨j, hj, rfl⟩
  · exact xs_r hS rfl
  · exact xs_r hS rfl
  · match j, hj with
    | 0, _ => exact xs_r hS rfl
    | 1, _ => exact xs_r hS rfl
    | 2, _ => exact xs_r hS rfl
    | 3, _ => exact xs_r hS rfl
    | 4, _ => exact xs_r hS rfl
    | 5, _ => exact xs_r hS rfl
    | 6, _ => exact xs_r hS rfl
    | 7, _ => exact xs_r hS rfl
theorem xsSr6 (hS : xS ρ δ h) {v : Nat} (hv : xIsS v) : xm_r h v 6 = some (v + 3) := by
  rcases hv with rfl | rfl | ⟨j, hj, rfl⟩
  · exact xs_r hS rfl
  · exact xs_r hS rfl
  · match j, hj with
    | 0, _ => exact xs_r hS rfl
    | 1, _ => exact xs_r hS rfl
    | 2, _ => exact xs_r hS rfl
    | 3, _ => exact xs_r hS rfl
    | 4, _ => exact xs_r hS rfl
    | 5, _ => exact xs_r hS rfl
    | 6, _ => exact xs_r hS rfl
    | 7, _ => exact xs_r hS rfl
theorem xsSr7 (hS : xS ρ δ h) {v : Nat} (hv : xIsS v) : xm_r h v 7 = some (v + 4) := by
  rcases hv with rfl | rfl | ⟨j, hj, rfl⟩
  · exact xs_r hS rfl
  · exact xs_r hS rfl
  · match j, hj with
    | 0, _ => exact xs_r hS rfl
    | 1, _ => exact xs_r hS rfl
    | 2, _ => exact xs_r hS rfl
    | 3, _ => exact xs_r hS rfl
    | 4, _ => exact xs_r hS rfl
    | 5, _ => exact xs_r hS rfl
    | 6, _ => exact xs_r hS rfl
    | 7, _ => exact xs_r hS rfl
theorem xsSr8 (hS : xS ρ δ h) {v : Nat} (hv : xIsS v) : xm_r h v 8 = some (v + 5) := by
  rcases hv with rfl | rfl | ⟨j, hj, rfl⟩
  · exact xs_r hS rfl
  · exact xs_r hS rfl
  · match j, hj with
    | 0, _ => exact xs_r hS rfl
    | 1, _ => exact xs_r hS rfl
    | 2, _ => exact xs_r hS rfl
    | 3, _ => exact xs_r hS rfl
    | 4, _ => exact xs_r hS rfl
    | 5, _ => exact xs_r hS rfl
    | 6, _ => exact xs_r hS rfl
    | 7, _ => exact xs_r hS rfl
theorem xsSr9 (hS : xS ρ δ h) {v : Nat} (hv : xIsS v) : xm_r h v 9 = some (v + 6) := by
  rcases hv with rfl | rfl | ⟨j, hj, rfl⟩
  · exact xs_r hS rfl
  · exact xs_r hS rfl
  · match j, hj with
    | 0, _ => exact xs_r hS rfl
    | 1, _ => exact xs_r hS rfl
    | 2, _ => exact xs_r hS rfl
    | 3, _ => exact xs_r hS rfl
    | 4, _ => exact xs_r hS rfl
    | 5, _ => exact xs_r hS rfl
    | 6, _ => exact xs_r hS rfl
    | 7, _ => exact xs_r hS rfl
theorem xsSr10 (hS : xS ρ δ h) {v : Nat} (hv : xIsS v) : xm_r h v 10 = some (v + 7) := by
  rcases hv with rfl | rfl | ⟨j, hj, rfl⟩
  · exact xs_r hS rfl
  · exact xs_r hS rfl
  · match j, hj with
    | 0, _ => exact xs_r hS rfl
    | 1, _ => exact xs_r hS rfl
    | 2, _ => exact xs_r hS rfl
    | 3, _ => exact xs_r hS rfl
    | 4, _ => exact xs_r hS rfl
    | 5, _ => exact xs_r hS rfl
    | 6, _ => exact xs_r hS rfl
    | 7, _ => exact xs_r hS rfl
theorem xsT (hS : xS ρ δ h) {v : Nat} (hv : xIsT v) : xm_k h v = (9, 0) := by
  obtain ⟨r, j, hr, hj, rfl⟩ := hv
  rcases hr with rfl | rfl
  · match j, hj with
    | 0, _ => exact xs_k hS rfl rfl
    | 1, _ => exact xs_k hS rfl rfl
    | 2, _ => exact xs_k hS rfl rfl
    | 3, _ => exact xs_k hS rfl rfl
    | 4, _ => exact xs_k hS rfl rfl
    | 5, _ => exact xs_k hS rfl rfl
  · match j, hj with
    | 0, _ => exact xs_k hS rfl rfl
    | 1, _ => exact xs_k hS rfl rfl
    | 2, _ => exact xs_k hS rfl rfl
    | 3, _ => exact xs_k hS rfl rfl
    | 4, _ => exact xs_k hS rfl rfl
    | 5, _ => exact xs_k hS rfl rfl
theorem xsC (hS : xS ρ δ h) {v : Nat} (hv : xIsC v) : xm_k h v = (1, 0) := by
  obtain ⟨r, j, hr, hj, rfl⟩ := hv
  rcases hr with rfl | rfl
  · match j, hj with
    | 0, _ => exact xs_k hS rfl rfl
    | 1, _ => exact xs_k hS rfl rfl
    | 2, _ => exact xs_k hS rfl rfl
    | 3, _ => exact xs_k hS rfl rfl
    | 4, _ => exact xs_k hS rfl rfl
    | 5, _ => exact xs_k hS rfl rfl
    | 6, _ => exact xs_k hS rfl rfl
    | 7, _ => exact xs_k hS rfl rfl
  · match j, hj with
    | 0, _ => exact xs_k hS rfl rfl
    | 1, _ => exact xs_k hS rfl rfl
    | 2, _ => exact xs_k hS rfl rfl
    | 3, _ => exact xs_k hS rfl rfl
    | 4, _ => exact xs_k hS rfl rfl
    | 5, _ => exact xs_k hS rfl rfl
    | 6, _ => exact xs_k hS rfl rfl
    | 7, _ => exact xs_k hS rfl rfl
theorem xS_si (hS : xS ρ δ h) {a k : Nat} {v : Int32} (e : h1 = xm_si h a k v) : xS ρ δ h1 := by subst e; exact hS
theorem xS_sl (hS : xS ρ δ h) {a k : Nat} {v : Int64} (e : h1 = xm_sl h a k v) : xS ρ δ h1 := by subst e; exact hS
theorem xS_sd (hS : xS ρ δ h) {a k : Nat} {v : UInt64} (e : h1 = xm_sd h a k v) : xS ρ δ h1 := by subst e; exact hS
theorem xS_cp (hS : xS ρ δ h) {a p b q n : Nat} (e : h1 = xm_cp h a p b q n) : xS ρ δ h1 := by subst e; exact hS
theorem xS_sr (hS : xS ρ δ h) {a k : Nat} {v : Option Nat} (e : h1 = xm_sr h a k v) (hd : xRD a k = none) (h2 : ¬ (a = 182 ∧ k = 0)) (h3 : ¬ (a = 161 ∧ k = 3)) : xS ρ δ h1 := by
  subst e
  refine ⟨⟨hS.1.1, hS.1.2.1, fun b j c hb => ?_⟩, hS.2.1, hS.2.2.1, ?_, ?_⟩
  · show xm_u2 _ a k v b j = _
    unfold xm_u2
    rw [if_neg]
    · exact hS.1.r hb
    · intro z
      rw [z.1, z.2, hd] at hb
      cases hb
  · show xm_u2 _ a k v 182 0 = _
    unfold xm_u2
    rw [if_neg]
    · exact hS.2.2.2.1
    · intro z
      exact h2 ⟨z.1.symm, z.2.symm⟩
  · show xm_u2 _ a k v 161 3 = _
    unfold xm_u2
    rw [if_neg]
    · exact hS.2.2.2.2
    · intro z
      exact h3 ⟨z.1.symm, z.2.symm⟩
theorem xS_name (hS : xS ρ δ h) {a : Nat} {v : Option Nat} (e : h1 = xm_sr h a 0 v) (ha : xIsT a ∨ xIsC a) : xS ρ δ h1 := by
  refine xS_sr hS e ?_ ?_ ?_
  · rcases ha with ⟨r, j, hr, hj, rfl⟩ | ⟨r, j, hr, hj, rfl⟩
    · rcases hr with rfl | rfl
      · match j, hj with
        | 0, _ => rfl
        | 1, _ => rfl
        | 2, _ => rfl
        | 3, _ => rfl
        | 4, _ => rfl
        | 5, _ => rfl
      · match j, hj with
        | 0, _ => rfl
        | 1, _ => rfl
        | 2, _ => rfl
        | 3, _ => rfl
        | 4, _ => rfl
        | 5, _ => rfl
    · rcases hr with rfl | rfl
      · match j, hj with
        | 0, _ => rfl
        | 1, _ => rfl
        | 2, _ => rfl
        | 3, _ => rfl
        | 4, _ => rfl
        | 5, _ => rfl
        | 6, _ => rfl
        | 7, _ => rfl
      · match j, hj with
        | 0, _ => rfl
        | 1, _ => rfl
        | 2, _ => rfl
        | 3, _ => rfl
        | 4, _ => rfl
        | 5, _ => rfl
        | 6, _ => rfl
        | 7, _ => rfl
  · rintro ⟨z, _⟩
    rcases ha with ⟨r, j, hr, hj, rfl⟩ | ⟨r, j, hr, hj, rfl⟩ <;> rcases hr with rfl | rfl <;> omega
  · rintro ⟨_, z⟩
    cases z
theorem xS_dyn (hS : xS ρ δ h) {a k : Nat} {v : Option Nat} (e : h1 = xm_sr h a k v) (ha : a = 300 ∨ 318 ≤ a) : xS ρ δ h1 := by
  refine xS_sr hS e ?_ (fun z => ?_) (fun z => ?_)
  · rcases ha with rfl | ha
    · rfl
    · unfold xRD
      have : ([] :: xRDl).getD (a - 159) [] = [] := by
        rw [List.getD_eq_getElem?_getD, List.getElem?_eq_none (by show 159 ≤ a - 159; omega)]
        rfl
      rw [this]
      rfl
  · omega
  · omega
theorem xS_rho (hS : xS ρ δ h) {v : Nat} (hv : xIsR v) (e : h1 = xm_sr h 182 0 (some v)) : xS v δ h1 := by
  subst e
  refine ⟨⟨hS.1.1, hS.1.2.1, fun b j c hb => ?_⟩, hv, hS.2.2.1, rfl, ?_⟩
  · show xm_u2 _ 182 0 (some v) b j = _
    unfold xm_u2
    rw [if_neg]
    · exact hS.1.r hb
    · rintro ⟨rfl, rfl⟩
      cases hb
  · show xm_u2 _ 182 0 (some v) 161 3 = _
    unfold xm_u2
    rw [if_neg (fun z => absurd z.1 (by decide))]
    exact hS.2.2.2.2
theorem xS_del (hS : xS ρ δ h) {v : Nat} (hv : xIsR v) (e : h1 = xm_sr h 161 3 (some v)) : xS ρ v h1 := by
  subst e
  refine ⟨⟨hS.1.1, hS.1.2.1, fun b j c hb => ?_⟩, hS.2.1, hv, ?_, rfl⟩
  · show xm_u2 _ 161 3 (some v) b j = _
    unfold xm_u2
    rw [if_neg]
    · exact hS.1.r hb
    · rintro ⟨rfl, rfl⟩
      cases hb
  · show xm_u2 _ 161 3 (some v) 182 0 = _
    unfold xm_u2
    rw [if_neg (fun z => absurd z.1 (by decide))]
    exact hS.2.2.2.1
theorem xS_new (hS : xS ρ δ h) {κ : Nat × Nat} (e : h1 = xm_new h κ) : xS ρ δ h1 := by
  subst e
  have hn := hS.1.1
  have hr : ∀ a k, a < 318 → xm_r (xm_new h κ) a k = xm_r h a k := by
    intro a k ha
    show xm_z _ _ _ a k = _
    unfold xm_z
    rw [if_neg (by have : h.1 = xm_n h := rfl; omega)]
    rfl
  refine ⟨⟨Nat.le_succ_of_le hn, fun i h1 h2 => ?_, fun b j c hb => ?_⟩, hS.2.1, hS.2.2.1, ?_, ?_⟩
  · show (if i = h.1 then κ else h.2.1 i) = _
    rw [if_neg (by have : h.1 = xm_n h := rfl; omega)]
    exact hS.1.k i h1 h2
  · by_cases hb2 : b < 318
    · rw [hr b j hb2]
      exact hS.1.r hb
    · exfalso
      unfold xRD at hb
      have : ([] :: xRDl).getD (b - 159) [] = [] := by
        rw [List.getD_eq_getElem?_getD, List.getElem?_eq_none (by show 159 ≤ b - 159; omega)]
        rfl
      rw [this] at hb
      cases hb
  · rw [hr _ _ (by decide)]
    exact hS.2.2.2.1
  · rw [hr _ _ (by decide)]
    exact hS.2.2.2.2
theorem xk_new {κ : Nat × Nat} (e : h1 = xm_new h κ) : xm_k h1 (xm_n h) = κ := by
  subst e
  show (if h.1 = h.1 then κ else h.2.1 h.1) = κ
  rw [if_pos rfl]
theorem xS_ge (hS : xS ρ δ h) : xK ≤ xm_n h := Nat.le_trans (by decide) hS.1.1
/-- the rules' and the draft's places, as the heap has them -/
def xRo (h : xm_H) : Nat := (xm_r h 182 0).getD 0
def xDr (h : xm_H) : Nat := (xm_r h 161 3).getD 0
theorem xS_self (hS : xS ρ δ h) : xS (xRo h) (xDr h) h := by
  have h1 : xRo h = ρ := by unfold xRo; rw [xs_rho hS]; rfl
  have h2 : xDr h = δ := by unfold xDr; rw [xs_del hS]; rfl
  rw [h1, h2]
  exact hS
end Shape
section Steps2
variable {C : xm_Cl} {M : xm_M} {Q : xm_O → xm_H → Prop} {pc : Nat} {ls : xm_L} {st r : List Value} {h : xm_H} {pl : List Nat} {cv : Value} {β : Type} {q : β}
theorem xj_if_eq {off : Int} {t : Nat} {x : Int32} {A B : Option β} (he : xm_at M pc = some (.ifCond .eq off, none, t :: pl, cv)) (hf : (if x = 0 then A else B) = some q) (ka : x = 0 → A = some q → xm_W C M Q t ls r h) (kb : ¬ (x = 0) → B = some q → xm_W C M Q (pc + 3) ls r h) : xm_W C M Q pc ls (.int x :: r) h := by
  have key : (x = 0 → xm_W C M Q t ls r h) ∧ (¬ (x = 0) → xm_W C M Q (pc + 3) ls r h) := ⟨fun hc => ka hc (by rw [if_pos hc] at hf; exact hf), fun hc => kb hc (by rw [if_neg hc] at hf; exact hf)⟩
  refine xw_if he (fun hc => ?_) (fun hc => ?_)
  · exact key.1 (of_decide_eq_true hc)
  · exact key.2 (of_decide_eq_false hc)
theorem xj_if_ne {off : Int} {t : Nat} {x : Int32} {A B : Option β} (he : xm_at M pc = some (.ifCond .ne off, none, t :: pl, cv)) (hf : (if x = 0 then A else B) = some q) (ka : x = 0 → A = some q → xm_W C M Q (pc + 3) ls r h) (kb : ¬ (x = 0) → B = some q → xm_W C M Q t ls r h) : xm_W C M Q pc ls (.int x :: r) h := by
  have key : (x = 0 → xm_W C M Q (pc + 3) ls r h) ∧ (¬ (x = 0) → xm_W C M Q t ls r h) := ⟨fun hc => ka hc (by rw [if_pos hc] at hf; exact hf), fun hc => kb hc (by rw [if_neg hc] at hf; exact hf)⟩
  refine xw_if he (fun hc => ?_) (fun hc => ?_)
  · exact key.2 (of_decide_eq_true hc)
  · exact key.1 (Decidable.not_not.mp (of_decide_eq_false hc))
theorem xj_if_lt {off : Int} {t : Nat} {x : Int32} {A B : Option β} (he : xm_at M pc = some (.ifCond .lt off, none, t :: pl, cv)) (hf : (if x < 0 then A else B) = some q) (ka : x < 0 → A = some q → xm_W C M Q t ls r h) (kb : ¬ (x < 0) → B = some q → xm_W C M Q (pc + 3) ls r h) : xm_W C M Q pc ls (.int x :: r) h := by
  have key : (x < 0 → xm_W C M Q t ls r h) ∧ (¬ (x < 0) → xm_W C M Q (pc + 3) ls r h) := ⟨fun hc => ka hc (by rw [if_pos hc] at hf; exact hf), fun hc => kb hc (by rw [if_neg hc] at hf; exact hf)⟩
  refine xw_if he (fun hc => ?_) (fun hc => ?_)
  · exact key.1 (of_decide_eq_true hc)
  · exact key.2 (of_decide_eq_false hc)
theorem xj_if_ge {off : Int} {t : Nat} {x : Int32} {A B : Option β} (he : xm_at M pc = some (.ifCond .ge off, none, t :: pl, cv)) (hf : (if x < 0 then A else B) = some q) (ka : x < 0 → A = some q → xm_W C M Q (pc + 3) ls r h) (kb : ¬ (x < 0) → B = some q → xm_W C M Q t ls r h) : xm_W C M Q pc ls (.int x :: r) h := by
  have key : (x < 0 → xm_W C M Q (pc + 3) ls r h) ∧ (¬ (x < 0) → xm_W C M Q t ls r h) := ⟨fun hc => ka hc (by rw [if_pos hc] at hf; exact hf), fun hc => kb hc (by rw [if_neg hc] at hf; exact hf)⟩
  refine xw_if he (fun hc => ?_) (fun hc => ?_)
  · exact key.2 (Int32.not_lt.mpr (of_decide_eq_true hc))
  · exact key.1 (Int32.not_le.mp (of_decide_eq_false hc))
theorem xj_if_gt {off : Int} {t : Nat} {x : Int32} {A B : Option β} (he : xm_at M pc = some (.ifCond .gt off, none, t :: pl, cv)) (hf : (if 0 < x then A else B) = some q) (ka : 0 < x → A = some q → xm_W C M Q t ls r h) (kb : ¬ (0 < x) → B = some q → xm_W C M Q (pc + 3) ls r h) : xm_W C M Q pc ls (.int x :: r) h := by
  have key : (0 < x → xm_W C M Q t ls r h) ∧ (¬ (0 < x) → xm_W C M Q (pc + 3) ls r h) := ⟨fun hc => ka hc (by rw [if_pos hc] at hf; exact hf), fun hc => kb hc (by rw [if_neg hc] at hf; exact hf)⟩
  refine xw_if he (fun hc => ?_) (fun hc => ?_)
  · exact key.1 (of_decide_eq_true hc)
  · exact key.2 (of_decide_eq_false hc)
theorem xj_if_le {off : Int} {t : Nat} {x : Int32} {A B : Option β} (he : xm_at M pc = some (.ifCond .le off, none, t :: pl, cv)) (hf : (if 0 < x then A else B) = some q) (ka : 0 < x → A = some q → xm_W C M Q (pc + 3) ls r h) (kb : ¬ (0 < x) → B = some q → xm_W C M Q t ls r h) : xm_W C M Q pc ls (.int x :: r) h := by
  have key : (0 < x → xm_W C M Q (pc + 3) ls r h) ∧ (¬ (0 < x) → xm_W C M Q t ls r h) := ⟨fun hc => ka hc (by rw [if_pos hc] at hf; exact hf), fun hc => kb hc (by rw [if_neg hc] at hf; exact hf)⟩
  refine xw_if he (fun hc => ?_) (fun hc => ?_)
  · exact key.2 (Int32.not_lt.mpr (of_decide_eq_true hc))
  · exact key.1 (Int32.not_le.mp (of_decide_eq_false hc))
theorem xj_ic_eq {off : Int} {t : Nat} {x y : Int32} {A B : Option β} (he : xm_at M pc = some (.if_icmp .eq off, none, t :: pl, cv)) (hf : (if x = y then A else B) = some q) (ka : x = y → A = some q → xm_W C M Q t ls r h) (kb : ¬ (x = y) → B = some q → xm_W C M Q (pc + 3) ls r h) : xm_W C M Q pc ls (.int y :: .int x :: r) h := by
  have key : (x = y → xm_W C M Q t ls r h) ∧ (¬ (x = y) → xm_W C M Q (pc + 3) ls r h) := ⟨fun hc => ka hc (by rw [if_pos hc] at hf; exact hf), fun hc => kb hc (by rw [if_neg hc] at hf; exact hf)⟩
  refine xw_ic he (fun hc => ?_) (fun hc => ?_)
  · exact key.1 (of_decide_eq_true hc)
  · exact key.2 (of_decide_eq_false hc)
theorem xj_ic_ne {off : Int} {t : Nat} {x y : Int32} {A B : Option β} (he : xm_at M pc = some (.if_icmp .ne off, none, t :: pl, cv)) (hf : (if x = y then A else B) = some q) (ka : x = y → A = some q → xm_W C M Q (pc + 3) ls r h) (kb : ¬ (x = y) → B = some q → xm_W C M Q t ls r h) : xm_W C M Q pc ls (.int y :: .int x :: r) h := by
  have key : (x = y → xm_W C M Q (pc + 3) ls r h) ∧ (¬ (x = y) → xm_W C M Q t ls r h) := ⟨fun hc => ka hc (by rw [if_pos hc] at hf; exact hf), fun hc => kb hc (by rw [if_neg hc] at hf; exact hf)⟩
  refine xw_ic he (fun hc => ?_) (fun hc => ?_)
  · exact key.2 (of_decide_eq_true hc)
  · exact key.1 (Decidable.not_not.mp (of_decide_eq_false hc))
theorem xj_ic_lt {off : Int} {t : Nat} {x y : Int32} {A B : Option β} (he : xm_at M pc = some (.if_icmp .lt off, none, t :: pl, cv)) (hf : (if x < y then A else B) = some q) (ka : x < y → A = some q → xm_W C M Q t ls r h) (kb : ¬ (x < y) → B = some q → xm_W C M Q (pc + 3) ls r h) : xm_W C M Q pc ls (.int y :: .int x :: r) h := by
  have key : (x < y → xm_W C M Q t ls r h) ∧ (¬ (x < y) → xm_W C M Q (pc + 3) ls r h) := ⟨fun hc => ka hc (by rw [if_pos hc] at hf; exact hf), fun hc => kb hc (by rw [if_neg hc] at hf; exact hf)⟩
  refine xw_ic he (fun hc => ?_) (fun hc => ?_)
  · exact key.1 (of_decide_eq_true hc)
  · exact key.2 (of_decide_eq_false hc)
theorem xj_ic_ge {off : Int} {t : Nat} {x y : Int32} {A B : Option β} (he : xm_at M pc = some (.if_icmp .ge off, none, t :: pl, cv)) (hf : (if x < y then A else B) = some q) (ka : x < y → A = some q → xm_W C M Q (pc + 3) ls r h) (kb : ¬ (x < y) → B = some q → xm_W C M Q t ls r h) : xm_W C M Q pc ls (.int y :: .int x :: r) h := by
  have key : (x < y → xm_W C M Q (pc + 3) ls r h) ∧ (¬ (x < y) → xm_W C M Q t ls r h) := ⟨fun hc => ka hc (by rw [if_pos hc] at hf; exact hf), fun hc => kb hc (by rw [if_neg hc] at hf; exact hf)⟩
  refine xw_ic he (fun hc => ?_) (fun hc => ?_)
  · exact key.2 (Int32.not_lt.mpr (of_decide_eq_true hc))
  · exact key.1 (Int32.not_le.mp (of_decide_eq_false hc))
theorem xj_ic_gt {off : Int} {t : Nat} {x y : Int32} {A B : Option β} (he : xm_at M pc = some (.if_icmp .gt off, none, t :: pl, cv)) (hf : (if y < x then A else B) = some q) (ka : y < x → A = some q → xm_W C M Q t ls r h) (kb : ¬ (y < x) → B = some q → xm_W C M Q (pc + 3) ls r h) : xm_W C M Q pc ls (.int y :: .int x :: r) h := by
  have key : (y < x → xm_W C M Q t ls r h) ∧ (¬ (y < x) → xm_W C M Q (pc + 3) ls r h) := ⟨fun hc => ka hc (by rw [if_pos hc] at hf; exact hf), fun hc => kb hc (by rw [if_neg hc] at hf; exact hf)⟩
  refine xw_ic he (fun hc => ?_) (fun hc => ?_)
  · exact key.1 (of_decide_eq_true hc)
  · exact key.2 (of_decide_eq_false hc)
theorem xj_ic_le {off : Int} {t : Nat} {x y : Int32} {A B : Option β} (he : xm_at M pc = some (.if_icmp .le off, none, t :: pl, cv)) (hf : (if y < x then A else B) = some q) (ka : y < x → A = some q → xm_W C M Q (pc + 3) ls r h) (kb : ¬ (y < x) → B = some q → xm_W C M Q t ls r h) : xm_W C M Q pc ls (.int y :: .int x :: r) h := by
  have key : (y < x → xm_W C M Q (pc + 3) ls r h) ∧ (¬ (y < x) → xm_W C M Q t ls r h) := ⟨fun hc => ka hc (by rw [if_pos hc] at hf; exact hf), fun hc => kb hc (by rw [if_neg hc] at hf; exact hf)⟩
  refine xw_ic he (fun hc => ?_) (fun hc => ?_)
  · exact key.2 (Int32.not_lt.mpr (of_decide_eq_true hc))
  · exact key.1 (Int32.not_le.mp (of_decide_eq_false hc))
/-- a switch, place by place -/
theorem xj_sw {a b c : Int} {os : Array Int} {x : Int32} {j t : Nat} {A B : Option β} (he : xm_at M pc = some (.tableswitch a b c os, none, pl, cv)) (hl : ∀ i, i < j → ¬ x = nI i) (hj : (Nat.ble (j + 2) pl.length && Nat.ble (j + 1) 100) = true) (ht : xm_p0 pl (j + 1) = t) (hf : (if x = nI j then A else B) = some q) (ka : A = some q → xm_W C M Q t ls r h) (kb : (∀ i, i < j + 1 → ¬ x = nI i) → B = some q → xm_W C M Q pc ls (.int x :: r) h) : xm_W C M Q pc ls (.int x :: r) h := by
  rw [Bool.and_eq_true] at hj
  have hj1 := Nat.le_of_ble_eq_true hj.1
  have hj2 := Nat.le_of_ble_eq_true hj.2
  by_cases hx : x = nI j
  · rw [if_pos hx] at hf
    have hz : x.toNatClampNeg = j := by rw [hx]; exact nI_clamp (by omega)
    have hz2 : ¬ x < 0 := by rw [hx]; exact fun z => (vp_in_nI (n := j) (N := j + 1) (by omega) (by omega)) (Or.inl z)
    refine xw_G he rfl trivial ?_
    rw [if_neg (fun z => z.elim hz2 (fun z => by rw [hz] at z; omega)), hz, ht]
    exact ka hf
  · rw [if_neg hx] at hf
    refine kb (fun i hi => ?_) hf
    by_cases h2 : i = j
    · rw [h2]; exact hx
    · exact hl i (by omega)
theorem xj_swd {a b c : Int} {os : Array Int} {x : Int32} {n t : Nat} (he : xm_at M pc = some (.tableswitch a b c os, none, pl, cv)) (hl : ∀ i, i < n → ¬ x = nI i) (hn : pl.length = n + 1) (ht : xm_p0 pl 0 = t) (k : xm_W C M Q t ls r h) : xm_W C M Q pc ls (.int x :: r) h := by
  refine xw_G he rfl trivial ?_
  rw [if_pos, ht]
  · exact k
  · by_cases hx : x < 0
    · exact Or.inl hx
    · right
      by_cases h2 : x.toNatClampNeg < n
      · exfalso
        refine hl _ h2 ?_
        have h0 : (0 : Int32) ≤ x := Int32.not_lt.mp hx
        rw [Int32.le_iff_toInt_le] at h0
        apply Int32.toInt_inj.mp
        have h3 := Int32.toInt_lt x
        have h4 : x.toInt = (x.toNatClampNeg : Int) := by
          unfold Int32.toNatClampNeg
          have : (0 : Int32).toInt = 0 := rfl
          omega
        have h5 : x.toNatClampNeg < 2 ^ 31 := by omega
        rw [nI, Int32.toInt_ofNat_of_lt (by omega), h4]
      · omega
section Ret
variable {T : Type} {inj : T → xm_O} {v : T} {φ : xm_H → Prop} {w : T × xm_H}
theorem xr_i {x : Int32} {ty : FieldType} (he : xm_at M pc = some (.ireturn, none, pl, cv)) (ht : M.2.2.2.2.2 = some ty) (hn : narrow ty (.int x) = .int x) (hv : inj v = .inl (some (.int x))) (hf : some (v, h) = some w) (hQ : φ w.2 → Q (inj w.1) w.2) (hφ : φ h) : xm_W C M Q pc ls [.int x] h := by
  cases hf
  have := hQ hφ
  rw [show inj (v, h).1 = inj v from rfl, hv] at this
  exact xw_ret he ht hn this
theorem xr_v (he : xm_at M pc = some (.return_, none, pl, cv)) (hv : inj v = .inl none) (hf : some (v, h) = some w) (hQ : φ w.2 → Q (inj w.1) w.2) (hφ : φ h) : xm_W C M Q pc ls [] h := by
  cases hf
  have := hQ hφ
  rw [show inj (v, h).1 = inj v from rfl, hv] at this
  exact xw_vret he this
theorem xr_d {x : UInt64} (he : xm_at M pc = some (.dreturn, none, pl, cv)) (hv : inj v = .inl (some (.double x))) (hf : some (v, h) = some w) (hQ : φ w.2 → Q (inj w.1) w.2) (hφ : φ h) : xm_W C M Q pc ls [.double x] h := by
  cases hf
  have := hQ hφ
  rw [show inj (v, h).1 = inj v from rfl, hv] at this
  exact xw_dret he this
theorem xr_r {x : Nat} (he : xm_at M pc = some (.areturn, none, pl, cv)) (hv : inj v = .inl (some (.ref x))) (hf : some (v, h) = some w) (hQ : φ w.2 → Q (inj w.1) w.2) (hφ : φ h) : xm_W C M Q pc ls [.ref x] h := by
  cases hf
  have := hQ hφ
  rw [show inj (v, h).1 = inj v from rfl, hv] at this
  exact xw_aret he this
/-- throws -/
theorem xr_x {x : Nat × Nat} (hv : inj v = .inr x) (hf : some (v, h) = some w) (hQ : φ w.2 → Q (inj w.1) w.2) (hφ : φ h) : Q (.inr x) h := by
  cases hf
  have := hQ hφ
  rw [show inj (v, h).1 = inj v from rfl, hv] at this
  exact this
theorem xr_t {idx c : Nat} (he : xm_at M pc = some (.new idx, none, [1, c], cv)) (hc : (st.map fun v => v.category).sum ≤ 8) (hv : inj v = .inr (c, xm_n h)) (hf : some (v, xm_new h (c, 0)) = some w) (hQ : φ w.2 → Q (inj w.1) w.2) (hφ : φ (xm_new h (c, 0))) : xm_W C M Q pc ls st h := xm_go he ⟨hc, xr_x hv hf hQ hφ⟩
end Ret
/-- stores: the new heap has a name -/
theorem xp_i {idx t f a : Nat} {x : Int32} {K : xm_H → Option β} (he : xm_at M pc = some (.putfield idx, none, [t, f, 0], cv)) (hk : (xm_k h a).1 = t) (ha : xK ≤ a) (hf : xl (xm_si h a f x) K = some q) (k : ∀ h1, h1 = xm_si h a f x → K h1 = some q → xm_W C M Q (pc + 3) ls r h1) : xm_W C M Q pc ls (.int x :: .ref a :: r) h := xw_G he rfl ⟨hk, ha, trivial⟩ (k _ rfl hf)
theorem xp_z {idx t f a : Nat} {x : Int32} {K : xm_H → Option β} (he : xm_at M pc = some (.putfield idx, none, [t, f, 1], cv)) (hk : (xm_k h a).1 = t) (ha : xK ≤ a) (hn : narrow .boolean (.int x) = .int x ∧ fits .boolean (.int x) = true) (hf : xl (xm_si h a f x) K = some q) (k : ∀ h1, h1 = xm_si h a f x → K h1 = some q → xm_W C M Q (pc + 3) ls r h1) : xm_W C M Q pc ls (.int x :: .ref a :: r) h := xw_G he rfl ⟨hk, ha, hn⟩ (k _ rfl hf)
theorem xp_b {idx t f a : Nat} {x : Int32} {K : xm_H → Option β} (he : xm_at M pc = some (.putfield idx, none, [t, f, 2], cv)) (hk : (xm_k h a).1 = t) (ha : xK ≤ a) (hn : narrow .byte (.int x) = .int x ∧ fits .byte (.int x) = true) (hf : xl (xm_si h a f x) K = some q) (k : ∀ h1, h1 = xm_si h a f x → K h1 = some q → xm_W C M Q (pc + 3) ls r h1) : xm_W C M Q pc ls (.int x :: .ref a :: r) h := xw_G he rfl ⟨hk, ha, hn⟩ (k _ rfl hf)
theorem xp_l {idx t f a : Nat} {x : Int64} {K : xm_H → Option β} (he : xm_at M pc = some (.putfield idx, none, [t, f, 4], cv)) (hk : (xm_k h a).1 = t) (ha : xK ≤ a) (hf : xl (xm_sl h a f x) K = some q) (k : ∀ h1, h1 = xm_sl h a f x → K h1 = some q → xm_W C M Q (pc + 3) ls r h1) : xm_W C M Q pc ls (.long x :: .ref a :: r) h := xw_G he rfl ⟨hk, ha, trivial⟩ (k _ rfl hf)
theorem xp_r {idx t f a b : Nat} {K : xm_H → Option β} (he : xm_at M pc = some (.putfield idx, none, [t, f, 6], cv)) (hk : (xm_k h a).1 = t) (ha : xK ≤ a) (hf : xl (xm_sr h a f (some b)) K = some q) (k : ∀ h1, h1 = xm_sr h a f (some b) → K h1 = some q → xm_W C M Q (pc + 3) ls r h1) : xm_W C M Q pc ls (.ref b :: .ref a :: r) h := xw_G he rfl ⟨hk, ha, trivial⟩ (k _ rfl hf)
theorem xa_i {a n : Nat} {j x : Int32} {K : xm_H → Option β} (he : xm_at M pc = some (.iastore, none, pl, cv)) (hk : (xm_k h a).1 = 100) (hn : (xm_k h a).2 = n) (hj : xin j n) (ha : xK ≤ a) (hf : xl (xm_si h a j.toNatClampNeg x) K = some q) (k : ∀ h1, h1 = xm_si h a j.toNatClampNeg x → K h1 = some q → xm_W C M Q (pc + 1) ls r h1) : xm_W C M Q pc ls (.int x :: .int j :: .ref a :: r) h := xw_G he rfl ⟨hk, by rw [hn]; exact hj, ha⟩ (k _ rfl hf)
theorem xa_c {a n : Nat} {j x : Int32} {K : xm_H → Option β} (he : xm_at M pc = some (.castore, none, pl, cv)) (hk : (xm_k h a).1 = 103) (hn : (xm_k h a).2 = n) (hj : xin j n) (ha : xK ≤ a) (hf : xl (xm_si h a j.toNatClampNeg (vp_nar .char x)) K = some q) (k : ∀ h1, h1 = xm_si h a j.toNatClampNeg (vp_nar .char x) → K h1 = some q → xm_W C M Q (pc + 1) ls r h1) : xm_W C M Q pc ls (.int x :: .int j :: .ref a :: r) h := xw_G he rfl ⟨hk, by rw [hn]; exact hj, ha⟩ (k _ rfl hf)
theorem xa_z {a n : Nat} {j x : Int32} {K : xm_H → Option β} (he : xm_at M pc = some (.bastore, none, [101], cv)) (hk : (xm_k h a).1 = 101) (hn : (xm_k h a).2 = n) (hj : xin j n) (ha : xK ≤ a) (hf : xl (xm_si h a j.toNatClampNeg (vp_nar .boolean x)) K = some q) (k : ∀ h1, h1 = xm_si h a j.toNatClampNeg (vp_nar .boolean x) → K h1 = some q → xm_W C M Q (pc + 1) ls r h1) : xm_W C M Q pc ls (.int x :: .int j :: .ref a :: r) h := xw_G he rfl ⟨hk, by rw [hn]; exact hj, ha⟩ (k _ rfl hf)
theorem xa_b {a n : Nat} {j x : Int32} {K : xm_H → Option β} (he : xm_at M pc = some (.bastore, none, [102], cv)) (hk : (xm_k h a).1 = 102) (hn : (xm_k h a).2 = n) (hj : xin j n) (ha : xK ≤ a) (hf : xl (xm_si h a j.toNatClampNeg (vp_nar .byte x)) K = some q) (k : ∀ h1, h1 = xm_si h a j.toNatClampNeg (vp_nar .byte x) → K h1 = some q → xm_W C M Q (pc + 1) ls r h1) : xm_W C M Q pc ls (.int x :: .int j :: .ref a :: r) h := xw_G he rfl ⟨hk, by rw [hn]; exact hj, ha⟩ (k _ rfl hf)
theorem xa_l {a n : Nat} {j : Int32} {x : Int64} {K : xm_H → Option β} (he : xm_at M pc = some (.lastore, none, pl, cv)) (hk : (xm_k h a).1 = 104) (hn : (xm_k h a).2 = n) (hj : xin j n) (ha : xK ≤ a) (hf : xl (xm_sl h a j.toNatClampNeg x) K = some q) (k : ∀ h1, h1 = xm_sl h a j.toNatClampNeg x → K h1 = some q → xm_W C M Q (pc + 1) ls r h1) : xm_W C M Q pc ls (.long x :: .int j :: .ref a :: r) h := xw_G he rfl ⟨hk, by rw [hn]; exact hj, ha⟩ (k _ rfl hf)
theorem xa_d {a n : Nat} {j : Int32} {x : UInt64} {K : xm_H → Option β} (he : xm_at M pc = some (.dastore, none, pl, cv)) (hk : (xm_k h a).1 = 105) (hn : (xm_k h a).2 = n) (hj : xin j n) (ha : xK ≤ a) (hf : xl (xm_sd h a j.toNatClampNeg x) K = some q) (k : ∀ h1, h1 = xm_sd h a j.toNatClampNeg x → K h1 = some q → xm_W C M Q (pc + 1) ls r h1) : xm_W C M Q pc ls (.double x :: .int j :: .ref a :: r) h := xw_G he rfl ⟨hk, by rw [hn]; exact hj, ha⟩ (k _ rfl hf)
theorem xa_r {t u a b n : Nat} {j : Int32} {K : xm_H → Option β} (he : xm_at M pc = some (.aastore, none, [t, u], cv)) (hk : (xm_k h a).1 = t) (hn : (xm_k h a).2 = n) (hj : xin j n) (ha : xK ≤ a) (hb : (xm_k h b).1 = u) (hb2 : xK ≤ b) (hf : xl (xm_sr h a j.toNatClampNeg (some b)) K = some q) (k : ∀ h1, h1 = xm_sr h a j.toNatClampNeg (some b) → K h1 = some q → xm_W C M Q (pc + 1) ls r h1) : xm_W C M Q pc ls (.ref b :: .int j :: .ref a :: r) h := xw_G he rfl ⟨hk, by rw [hn]; exact hj, ha, hb, hb2⟩ (k _ rfl hf)
theorem xa_n {idx c : Nat} {K : xm_H → Option β} (he : xm_at M pc = some (.new idx, none, [0, c], cv)) (hf : xl (xm_new h (c, 0)) K = some q) (k : ∀ h1, h1 = xm_new h (c, 0) → K h1 = some q → xm_W C M Q (pc + 3) ls (.ref (xm_n h) :: st) h1) : xm_W C M Q pc ls st h := xw_G he rfl trivial (k _ rfl hf)
theorem xa_nK {idx c : Nat} {m : List Bool} {K : xm_H → Option β} (he : xm_at M pc = some (.new idx, some m, [0, c], cv)) (hf : xl (xm_new h (c, 0)) K = some q) (k : ∀ h1, h1 = xm_new h (c, 0) → K h1 = some q → xm_W C M Q (pc + 3) (xm_mk (some m) ls) (.ref (xm_n h) :: st) h1) : xm_W C M Q pc ls st h := xw_K he rfl trivial (k _ rfl hf)
theorem xa_na {ty : Jvm.ClassFile.ArrayType} {t : Nat} {n : Int32} {K : xm_H → Option β} (he : xm_at M pc = some (.newarray ty, none, [t], cv)) (hn : ¬ n < 0 ∧ n.toNatClampNeg ≤ 60000000) (hf : xl (xm_new h (t, n.toNatClampNeg)) K = some q) (k : ∀ h1, h1 = xm_new h (t, n.toNatClampNeg) → K h1 = some q → xm_W C M Q (pc + 2) ls (.ref (xm_n h) :: r) h1) : xm_W C M Q pc ls (.int n :: r) h := xw_G he rfl hn (k _ rfl hf)
theorem xa_nb {idx t : Nat} {n : Int32} {K : xm_H → Option β} (he : xm_at M pc = some (.anewarray idx, none, [t], cv)) (hn : ¬ n < 0 ∧ n.toNatClampNeg ≤ 60000000) (hf : xl (xm_new h (t, n.toNatClampNeg)) K = some q) (k : ∀ h1, h1 = xm_new h (t, n.toNatClampNeg) → K h1 = some q → xm_W C M Q (pc + 3) ls (.ref (xm_n h) :: r) h1) : xm_W C M Q pc ls (.int n :: r) h := xw_G he rfl hn (k _ rfl hf)
theorem xa_cp {idx t a b : Nat} {p p2 n : Int32} {K : xm_H → Option β} (he : xm_at M pc = some (.invokestatic idx, none, 9 :: t :: pl, cv)) (hi : ∀ i, i < n.toNatClampNeg → fits (xm_ty (t - 100)) (.int (xm_i h a (p.toNatClampNeg + i))) = true) (hka : (xm_k h a).1 = t) (hkb : (xm_k h b).1 = t) (hb : xK ≤ b) (hn : ¬ n < 0) (hp2 : ¬ p2 < 0) (hp : ¬ p < 0) (h1 : p.toNatClampNeg + n.toNatClampNeg ≤ (xm_k h a).2) (h2 : p2.toNatClampNeg + n.toNatClampNeg ≤ (xm_k h b).2) (hc : (r.map fun v => v.category).sum ≤ 8) (hf : xl (xm_cp h a p.toNatClampNeg b p2.toNatClampNeg n.toNatClampNeg) K = some q) (k : ∀ h1, h1 = xm_cp h a p.toNatClampNeg b p2.toNatClampNeg n.toNatClampNeg → K h1 = some q → xm_W C M Q (pc + 3) ls r h1) : xm_W C M Q pc ls (.int n :: .int p2 :: .ref b :: .int p :: .ref a :: r) h := xm_go he ⟨hi, hka, hkb, hb, hn, hp2, hp, h1, h2, hc, k _ rfl hf⟩
/-- loads from rows -/
theorem xa_ld {i : Instr} {t τ a n : Nat} {j : Int32} (he : xm_at M pc = some (i, none, pl, cv)) (hi : xm_G i pl cv pc ls (.int j :: .ref a :: r) h = xm_al t τ pc ls (.int j :: .ref a :: r) h) (hk : (xm_k h a).1 = t) (hn : (xm_k h a).2 = n) (hj : xin j n) {v : Value} (hv : xm_get τ h a j.toNatClampNeg = v) (k : xm_W C M Q (pc + 1) ls (v :: r) h) : xm_W C M Q pc ls (.int j :: .ref a :: r) h := by
  subst hv
  exact xw_G he hi ⟨hk, by rw [hn]; exact hj⟩ k
theorem xa_ar {a t n b : Nat} {j : Int32} (he : xm_at M pc = some (.aaload, none, [t], cv)) (hk : (xm_k h a).1 = t) (hn : (xm_k h a).2 = n) (hj : xin j n) (hr : xm_r h a j.toNatClampNeg = some b) (k : xm_W C M Q (pc + 1) ls (.ref b :: r) h) : xm_W C M Q pc ls (.int j :: .ref a :: r) h := xa_ld he rfl hk hn hj (by show va_rf _ = _; rw [hr]; rfl) k
theorem xa_len {a n : Nat} (he : xm_at M pc = some (.arraylength, none, pl, cv)) (hk : 100 ≤ (xm_k h a).1 ∧ (xm_k h a).1 < 109) (hn : (xm_k h a).2 = n) (k : xm_W C M Q (pc + 1) ls (.int (Int32.ofNat n) :: r) h) : xm_W C M Q pc ls (.ref a :: r) h := by
  subst hn
  exact xw_G he rfl hk k
theorem xw_gs {idx : Nat} (he : xm_at M pc = some (.getstatic idx, none, [1], cv)) (k : ∀ v : Value, (v = .null ∨ ∃ a, v = .ref a) → xm_W C M Q (pc + 3) ls (v :: st) h) : xm_W C M Q pc ls st h := xm_go he k
end Steps2
/-- small sorts -/
theorem xnar_z {x : Int32} (hx : x = 0 ∨ x = 1) : narrow .boolean (.int x) = .int x ∧ fits .boolean (.int x) = true := by
  rcases hx with rfl | rfl <;> exact ⟨rfl, rfl⟩
theorem xnar_c {x : Int32} (hx : vp_nar .char x = x) : narrow .char (.int x) = .int x := congrArg Value.int hx
theorem xnar_b {x : Int32} (hx : vp_nar .byte x = x) : narrow .byte (.int x) = .int x := congrArg Value.int hx
