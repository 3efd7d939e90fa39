/-! the checker of the method tables -/
/-- String constants of the class and the reference: class, entry, text, cell -/
def xm_str (SL : xm_SL) (own : String) (idx i : Nat) : Bool := SL.any (fun q => q.1 == own && q.2.1 == idx && q.2.2.2 == i)
theorem xm_str_ok {SL : xm_SL} {own : String} {idx i : Nat} (h : xm_str SL own idx i = true) : ∃ tx, (own, idx, tx, i) ∈ SL := by
  obtain ⟨q, hq, h2⟩ := List.any_eq_true.mp h
  simp only [Bool.and_eq_true, beq_iff_eq] at h2
  obtain ⟨⟨a, b⟩, c⟩ := h2
  obtain ⟨q1, q2, q3, q4⟩ := q
  subst a; subst b; subst c
  exact ⟨q3, hq⟩
/-- constants by number: class, entry, value, with the words -/
def xm_chkG (SL : xm_SL) (ZL : xm_ZL) (CI : List (Nat × Nat × Int32)) (CJ : List (Nat × Nat × Int64)) (o : Nat) (own name : String) (pc : Nat) (e : xm_E) : Bool := match e.1 with
  | .getfield idx => xFL.contains (o, idx, xm_p0 e.2.2.1 0, xm_p0 e.2.2.1 1, xm_p0 e.2.2.1 2)
  | .putfield idx => xFL.contains (o, idx, xm_p0 e.2.2.1 0, xm_p0 e.2.2.1 1, xm_p0 e.2.2.1 2) && (match xcl[xm_p0 e.2.2.1 0]? with
    | some q => !(q.2.1 (xm_p0 e.2.2.1 1)).2.2.2 || ((q.2.1 (xm_p0 e.2.2.1 1)).1 == own && name == "<init>")
    | none => true)
  | .goto off => decide ((pc : Int) + off = (xm_p0 e.2.2.1 0 : Int))
  | .ifCond _ off => decide ((pc : Int) + off = (xm_p0 e.2.2.1 0 : Int))
  | .if_icmp _ off => decide ((pc : Int) + off = (xm_p0 e.2.2.1 0 : Int))
  | .ifnonnull off => decide ((pc : Int) + off = (xm_p0 e.2.2.1 0 : Int))
  | .tableswitch d lo hi offs => decide (lo = 0) && decide (hi + 2 = (e.2.2.1.length : Int)) && decide (offs.size + 1 = e.2.2.1.length) && decide ((pc : Int) + d = (xm_p0 e.2.2.1 0 : Int)) && (List.range offs.size).all (fun j => decide ((pc : Int) + offs.getD j 0 = (xm_p0 e.2.2.1 (j + 1) : Int)))
  | .ldc idx => match e.2.2.2 with
    | .int v => CI.contains (o, idx, v)
    | .ref i => xm_str SL own idx i
    | _ => false
  | .ldc_w idx => match e.2.2.2 with
    | .int v => CI.contains (o, idx, v)
    | .ref i => xm_str SL own idx i
    | _ => false
  | .ldc2_w idx => match e.2.2.2 with
    | .long v => CJ.contains (o, idx, v)
    | _ => false
  | .getstatic idx => decide (xm_p0 e.2.2.1 0 ≠ 0) || ZL.any (fun q => q.1 == own && q.2.1 == idx && decide (q.2.2.2.2.2 = e.2.2.2))
  | .newarray a => (match a with
    | .int => decide (xm_p0 e.2.2.1 0 = 100)
    | .boolean => decide (xm_p0 e.2.2.1 0 = 101)
    | .byte => decide (xm_p0 e.2.2.1 0 = 102)
    | .char => decide (xm_p0 e.2.2.1 0 = 103)
    | .long => decide (xm_p0 e.2.2.1 0 = 104)
    | .double => decide (xm_p0 e.2.2.1 0 = 105)
    | _ => false)
  | .anewarray idx => (decide (xm_p0 e.2.2.1 0 = 106) && xCL.contains (o, idx, "AdMarketplace$Campaign")) || (decide (xm_p0 e.2.2.1 0 = 107) && xCL.contains (o, idx, "AdMarketplace$Tag")) || (decide (xm_p0 e.2.2.1 0 = 108) && xCL.contains (o, idx, "AdMarketplace$Standing"))
  | .new idx => decide (xm_p0 e.2.2.1 0 ≠ 0) || (decide (xm_p0 e.2.2.1 1 < 14) && (match xcl[xm_p0 e.2.2.1 1]? with
    | some q => xCL.contains (o, idx, q.1)
    | none => false))
  | .aastore => (decide (xm_p0 e.2.2.1 0 = 106) && decide (xm_p0 e.2.2.1 1 = 1)) || (decide (xm_p0 e.2.2.1 0 = 107) && decide (xm_p0 e.2.2.1 1 = 9)) || (decide (xm_p0 e.2.2.1 0 = 108) && decide (xm_p0 e.2.2.1 1 = 8))
  | .aaload => decide (106 ≤ xm_p0 e.2.2.1 0) && decide (xm_p0 e.2.2.1 0 < 109)
  | .baload => decide (xm_p0 e.2.2.1 0 = 101) || decide (xm_p0 e.2.2.1 0 = 102)
  | _ => true
/-- what the short lists must say -/
def xm_tabs (SL : xm_SL) (ZL : xm_ZL) (CI : List (Nat × Nat × Int32)) (CJ : List (Nat × Nat × Int64)) : Prop :=
  (∀ q ∈ CI, Cond.constant (xon.getD q.1 "") q.2.1 q.2.2 ∈ xgd) ∧ (∀ q ∈ CJ, Cond.constantLong (xon.getD q.1 "") q.2.1 q.2.2 ∈ xgd) ∧ (∀ q ∈ ZL, Cond.fieldLink q.1 q.2.1 q.2.2.1 q.2.2.2.1 q.2.2.2.2.1 ∈ xgd) ∧
  (Cond.arrayClass .int ∈ xgd ∧ Cond.arrayClass .boolean ∈ xgd ∧ Cond.arrayClass .byte ∈ xgd ∧ Cond.arrayClass .char ∈ xgd ∧ Cond.arrayClass .long ∈ xgd ∧ Cond.arrayClass .double ∈ xgd)
set_option maxHeartbeats 4000000 in
set_option maxRecDepth 100000 in
theorem xm_chkG_ok {SL : xm_SL} {ZL : xm_ZL} {CI : List (Nat × Nat × Int32)} {CJ : List (Nat × Nat × Int64)} (ht : xm_tabs SL ZL CI CJ) {o : Nat} {own name : String} (ho : xon.getD o "" = own) {pc : Nat} {e : xm_E} (h : xm_chkG SL ZL CI CJ o own name pc e = true) : xm_okG SL ZL own name pc e := by
  obtain ⟨t1, t2, t3, a0, a1, a2, a3, a4, a5⟩ := ht
  obtain ⟨i, mk, pl, cv⟩ := e
  have fl : ∀ {idx a b c : Nat}, xFL.contains (o, idx, a, b, c) = true → xm_fok own idx a b c := fun {idx a b c} hc => by
    have := xFL_ok _ (List.contains_iff_mem.mp hc)
    unfold xm_fq at this
    rw [ho] at this
    exact this
  have cl : ∀ {idx : Nat} {C : String}, xCL.contains (o, idx, C) = true → Cond.classLink own idx C ∈ xgd := fun {idx C} hc => by
    have := xCL_ok _ (List.contains_iff_mem.mp hc)
    unfold xm_cq at this
    rw [ho] at this
    exact this
  cases i
  all_goals (try trivial)
  case getfield idx => exact fl h
  case putfield idx =>
    simp only [xm_chkG, Bool.and_eq_true] at h
    refine ⟨fl h.1, fun q hq => ?_⟩
    have h2 := h.2
    simp only [hq, Bool.or_eq_true, Bool.not_eq_true', Bool.and_eq_true, beq_iff_eq] at h2
    rcases h2 with w | ⟨w1, w2⟩
    · exact Or.inl w
    · by_cases hf : (q.2.1 (xm_p0 pl 1)).2.2.2 = true
      · exact Or.inr ⟨hf, w1, w2⟩
      · exact Or.inl (by simpa using hf)
  case goto off => simp only [xm_chkG, decide_eq_true_eq] at h; exact h
  case ifCond c off => simp only [xm_chkG, decide_eq_true_eq] at h; exact h
  case if_icmp c off => simp only [xm_chkG, decide_eq_true_eq] at h; exact h
  case ifnonnull off => simp only [xm_chkG, decide_eq_true_eq] at h; exact h
  case tableswitch d lo hi offs =>
    simp only [xm_chkG, Bool.and_eq_true, decide_eq_true_eq] at h
    obtain ⟨⟨⟨⟨h1, h2⟩, h3⟩, h4⟩, h5⟩ := h
    exact ⟨h1, h2, h3, h4, fun j hj => of_decide_eq_true (List.all_eq_true.mp h5 j (List.mem_range.mpr hj))⟩
  case ldc idx =>
    simp only [xm_chkG] at h
    simp only [xm_okG]
    split at h
    · have := t1 _ (List.contains_iff_mem.mp h)
      rw [ho] at this
      exact this
    · exact xm_str_ok h
    · cases h
  case ldc_w idx =>
    simp only [xm_chkG] at h
    simp only [xm_okG]
    split at h
    · have := t1 _ (List.contains_iff_mem.mp h)
      rw [ho] at this
      exact this
    · exact xm_str_ok h
    · cases h
  case ldc2_w idx =>
    simp only [xm_chkG] at h
    simp only [xm_okG]
    split at h
    · have := t2 _ (List.contains_iff_mem.mp h)
      rw [ho] at this
      exact this
    · cases h
  case getstatic idx =>
    simp only [xm_chkG, Bool.or_eq_true, decide_eq_true_eq] at h
    intro h0
    rcases h with h | h
    · exact absurd h0 h
    · obtain ⟨q, hq, h2⟩ := List.any_eq_true.mp h
      simp only [Bool.and_eq_true, beq_iff_eq, decide_eq_true_eq] at h2
      obtain ⟨⟨x1, x2⟩, x3⟩ := h2
      have x4 := t3 q hq
      obtain ⟨q1, q2, q3, q4, q5, q6⟩ := q
      dsimp only at x1 x2 x3 x4
      subst x1; subst x2; subst x3
      exact ⟨q3, q4, q5, hq, x4⟩
  case newarray a =>
    simp only [xm_chkG] at h
    cases a <;> first | (exact ⟨0, of_decide_eq_true h, by decide, rfl, a0⟩) | (exact ⟨1, of_decide_eq_true h, by decide, rfl, a1⟩) | (exact ⟨2, of_decide_eq_true h, by decide, rfl, a2⟩) | (exact ⟨3, of_decide_eq_true h, by decide, rfl, a3⟩) | (exact ⟨4, of_decide_eq_true h, by decide, rfl, a4⟩) | (exact ⟨5, of_decide_eq_true h, by decide, rfl, a5⟩) | (cases h; done)
  case anewarray idx =>
    simp only [xm_chkG, Bool.or_eq_true, Bool.and_eq_true, decide_eq_true_eq] at h
    rcases h with (⟨h1, h2⟩ | ⟨h1, h2⟩) | ⟨h1, h2⟩
    · exact ⟨6, _, h1, by decide, rfl, cl h2⟩
    · exact ⟨7, _, h1, by decide, rfl, cl h2⟩
    · exact ⟨8, _, h1, by decide, rfl, cl h2⟩
  case new idx =>
    simp only [xm_chkG, Bool.or_eq_true, Bool.and_eq_true, decide_eq_true_eq] at h
    intro h0
    rcases h with h | ⟨h1, h2⟩
    · exact absurd h0 h
    · split at h2
      · rename_i q hq
        exact ⟨q, hq, h1, cl h2⟩
      · cases h2
  case aastore =>
    simp only [xm_chkG, Bool.or_eq_true, Bool.and_eq_true, decide_eq_true_eq] at h
    rcases h with (⟨h1, h2⟩ | ⟨h1, h2⟩) | ⟨h1, h2⟩
    · exact ⟨6, _, _, h1, by decide, rfl, by dsimp only; rw [h2]; rfl, by dsimp only; rw [h2]; decide, rfl⟩
    · exact ⟨7, _, _, h1, by decide, rfl, by dsimp only; rw [h2]; rfl, by dsimp only; rw [h2]; decide, rfl⟩
    · exact ⟨8, _, _, h1, by decide, rfl, by dsimp only; rw [h2]; rfl, by dsimp only; rw [h2]; decide, rfl⟩
  case aaload =>
    simp only [xm_chkG, Bool.and_eq_true, decide_eq_true_eq] at h
    rcases (show xm_p0 pl 0 = 106 ∨ xm_p0 pl 0 = 107 ∨ xm_p0 pl 0 = 108 by omega) with z | z | z
    · exact ⟨6, _, z, by decide, rfl⟩
    · exact ⟨7, _, z, by decide, rfl⟩
    · exact ⟨8, _, z, by decide, rfl⟩
  case baload =>
    simp only [xm_chkG, Bool.or_eq_true, decide_eq_true_eq] at h
    exact h
