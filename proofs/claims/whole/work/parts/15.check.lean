/-! printed by wip/gen/gen15.py: the short lists, and the checker of calls, returns, throws -/
abbrev xSL : xm_SL := [("AdMarketplace$Tag", 7, "", 3), ("AdMarketplace$Campaign", 7, "", 5), ("AdMarketplace", 372, "out of range", 7), ("AdMarketplace$Parser", 46, "day", 9), ("AdMarketplace$Parser", 54, "attribute", 11), ("AdMarketplace$Parser", 59, "slots", 13), ("AdMarketplace$Parser", 64, "tag", 15), ("AdMarketplace$Parser", 183, "any", 17), ("AdMarketplace$Parser", 69, "campaign", 19), ("AdMarketplace$Parser", 74, "pace", 21), ("AdMarketplace$Parser", 188, "fast", 23), ("AdMarketplace$Parser", 190, "even", 25), ("AdMarketplace$Parser", 192, "strict", 27), ("AdMarketplace$Parser", 78, "apart", 29), ("AdMarketplace", 370, "no such tag", 31), ("AdMarketplace", 368, "no such campaign", 33), ("AdMarketplace", 154, "negative place", 35), ("AdMarketplace", 228, "too many impressions", 37), ("AdMarketplace", 234, "too many ticks", 39), ("AdMarketplace", 239, "too many conversions", 41), ("AdMarketplace", 269, "paused already", 43), ("AdMarketplace", 274, "not paused", 45), ("AdMarketplace", 276, "more is spent already", 47), ("AdMarketplace", 286, "no such impression", 49), ("AdMarketplace", 362, "fast", 51), ("AdMarketplace", 364, "even", 53), ("AdMarketplace", 366, "strict", 55), ("AdMarketplace", 341, ": ", 57), ("AdMarketplace", 346, " at ", 59), ("AdMarketplace", 348, " paused", 61), ("AdMarketplace", 350, ", seen by ", 63), ("AdMarketplace", 356, "no such character", 65), ("AdMarketplaceModel", 177, "day", 67), ("AdMarketplaceModel", 182, "attribute", 69), ("AdMarketplaceModel", 184, "slots", 71), ("AdMarketplaceModel", 189, "tag", 73), ("AdMarketplaceModel", 148, "any", 75), ("AdMarketplaceModel", 194, "campaign", 77), ("AdMarketplaceModel", 199, "pace", 79), ("AdMarketplaceModel", 171, "fast", 81), ("AdMarketplaceModel", 173, "even", 83), ("AdMarketplaceModel", 175, "strict", 85), ("AdMarketplaceModel", 204, "apart", 87), ("AdMarketplaceModel", 394, ": ", 89), ("AdMarketplaceModel", 399, " at ", 91), ("AdMarketplaceModel", 401, " paused", 93), ("AdMarketplaceModel", 403, ", seen by ", 95)]
abbrev xZL : xm_ZL := [("java/lang/AbstractStringBuilder", 18, "java/lang/String", "COMPACT_STRINGS", "Z", .int 1), ("java/lang/Integer", 83, "java/lang/Integer", "DigitOnes", "[B", .ref 1), ("java/lang/Integer", 87, "java/lang/Integer", "DigitTens", "[B", .ref 2), ("java/lang/String", 38, "java/lang/String", "COMPACT_STRINGS", "Z", .int 1)]
abbrev xQL : xm_QL := [("java/lang/String", 1053, "jdk/internal/util/Preconditions", "SIOOBE_FORMATTER", "Ljava/util/function/BiFunction;")]
abbrev xCI : List (Nat × Nat × Int32) := [(12, 39, 2147483647), (14, 265, 1431655765), (14, 266, 858993459), (14, 267, 252645135), (19, 20, 1073741823), (21, 200, 2147483639)]
abbrev xCJ : List (Nat × Nat × Int64) := [(11, 97, 32), (11, 99, 96), (11, 218, 15), (11, 309, 60), (11, 324, 160), (11, 332, 200), (11, 334, 9999), (11, 351, 999), (11, 353, 2), (11, 355, 4), (11, 380, 31)]
set_option maxRecDepth 100000 in
theorem xtabs : xm_tabs xSL xZL xCI xCJ := ⟨List.forall_mem_cons.mpr ⟨xh6 (i := 119) rfl rfl, List.forall_mem_cons.mpr ⟨xh6 (i := 31) rfl rfl, List.forall_mem_cons.mpr ⟨xh6 (i := 32) rfl rfl, List.forall_mem_cons.mpr ⟨xh6 (i := 33) rfl rfl, List.forall_mem_cons.mpr ⟨xh2 (i := 196) rfl rfl, List.forall_mem_cons.mpr ⟨xh6 (i := 115) rfl rfl, fun _ h => absurd h List.not_mem_nil⟩⟩⟩⟩⟩⟩, List.forall_mem_cons.mpr ⟨xh8 (i := 4) rfl rfl, List.forall_mem_cons.mpr ⟨xh8 (i := 5) rfl rfl, List.forall_mem_cons.mpr ⟨xh8 (i := 176) rfl rfl, List.forall_mem_cons.mpr ⟨xh9 (i := 18) rfl rfl, List.forall_mem_cons.mpr ⟨xh9 (i := 55) rfl rfl, List.forall_mem_cons.mpr ⟨xh9 (i := 68) rfl rfl, List.forall_mem_cons.mpr ⟨xh9 (i := 69) rfl rfl, List.forall_mem_cons.mpr ⟨xh9 (i := 106) rfl rfl, List.forall_mem_cons.mpr ⟨xh9 (i := 115) rfl rfl, List.forall_mem_cons.mpr ⟨xh9 (i := 128) rfl rfl, List.forall_mem_cons.mpr ⟨xh9 (i := 193) rfl rfl, fun _ h => absurd h List.not_mem_nil⟩⟩⟩⟩⟩⟩⟩⟩⟩⟩⟩, List.forall_mem_cons.mpr ⟨xh2 (i := 188) rfl rfl, List.forall_mem_cons.mpr ⟨xh6 (i := 188) rfl rfl, List.forall_mem_cons.mpr ⟨xh6 (i := 190) rfl rfl, List.forall_mem_cons.mpr ⟨xh3 (i := 186) rfl rfl, fun _ h => absurd h List.not_mem_nil⟩⟩⟩⟩, xh1 (i := 102) rfl rfl, xh2 (i := 51) rfl rfl, xh1 (i := 103) rfl rfl, xh1 (i := 78) rfl rfl, xh7 (i := 209) rfl rfl, xh9 (i := 217) rfl rfl⟩
abbrev xTH : List (Nat × Nat × Nat) := [(10, 156, 15), (10, 288, 14), (10, 230, 16)]
def xm_tq (q : Nat × Nat × Nat) : Prop := ∀ cls, xec[q.2.2 - 14]? = some cls → Cond.initialized cls ∈ xgd ∧ Bundle.fit cls = true ∧ ∀ w ∈ vx_atS (xon.getD q.1 "") q.2.1 cls ["java/lang/RuntimeException", "java/lang/Exception"], (w ∈ xgd ∨ w ∈ xnw) ∧ vx_ot w = true
theorem xth0a : ∀ w ∈ (vx_atS "AdMarketplace" 156 "java/lang/IllegalArgumentException" ["java/lang/RuntimeException", "java/lang/Exception"]).filter goodWord, w ∈ lw_tbl := by decide +kernel
theorem xth0b : ∀ w ∈ (vx_atS "AdMarketplace" 156 "java/lang/IllegalArgumentException" ["java/lang/RuntimeException", "java/lang/Exception"]).filter (fun w => !goodWord w), w ∈ xnw := by decide +kernel
theorem xth0c : (vx_atS "AdMarketplace" 156 "java/lang/IllegalArgumentException" ["java/lang/RuntimeException", "java/lang/Exception"]).all vx_ot = true := by decide +kernel
set_option maxRecDepth 100000 in
theorem xth0 : xm_tq (10, 156, 15) := by
  intro cls hc
  cases hc
  refine ⟨xh1 (i := 20) rfl rfl, by decide +kernel, fun w hw => ⟨?_, List.all_eq_true.mp xth0c w hw⟩⟩
  by_cases hg : goodWord w = true
  · exact Or.inl (List.mem_filter.mpr ⟨List.mem_append_right _ (xth0a w (List.mem_filter.mpr ⟨hw, hg⟩)), hg⟩)
  · exact Or.inr (xth0b w (List.mem_filter.mpr ⟨hw, by simpa using hg⟩))
theorem xth1a : ∀ w ∈ (vx_atS "AdMarketplace" 288 "java/lang/IndexOutOfBoundsException" ["java/lang/RuntimeException", "java/lang/Exception"]).filter goodWord, w ∈ lw_tbl := by decide +kernel
theorem xth1b : ∀ w ∈ (vx_atS "AdMarketplace" 288 "java/lang/IndexOutOfBoundsException" ["java/lang/RuntimeException", "java/lang/Exception"]).filter (fun w => !goodWord w), w ∈ xnw := by decide +kernel
theorem xth1c : (vx_atS "AdMarketplace" 288 "java/lang/IndexOutOfBoundsException" ["java/lang/RuntimeException", "java/lang/Exception"]).all vx_ot = true := by decide +kernel
set_option maxRecDepth 100000 in
theorem xth1 : xm_tq (10, 288, 14) := by
  intro cls hc
  cases hc
  refine ⟨xh1 (i := 24) rfl rfl, by decide +kernel, fun w hw => ⟨?_, List.all_eq_true.mp xth1c w hw⟩⟩
  by_cases hg : goodWord w = true
  · exact Or.inl (List.mem_filter.mpr ⟨List.mem_append_right _ (xth1a w (List.mem_filter.mpr ⟨hw, hg⟩)), hg⟩)
  · exact Or.inr (xth1b w (List.mem_filter.mpr ⟨hw, by simpa using hg⟩))
theorem xth2a : ∀ w ∈ (vx_atS "AdMarketplace" 230 "java/lang/IllegalStateException" ["java/lang/RuntimeException", "java/lang/Exception"]).filter goodWord, w ∈ lw_tbl := by decide +kernel
theorem xth2b : ∀ w ∈ (vx_atS "AdMarketplace" 230 "java/lang/IllegalStateException" ["java/lang/RuntimeException", "java/lang/Exception"]).filter (fun w => !goodWord w), w ∈ xnw := by decide +kernel
theorem xth2c : (vx_atS "AdMarketplace" 230 "java/lang/IllegalStateException" ["java/lang/RuntimeException", "java/lang/Exception"]).all vx_ot = true := by decide +kernel
set_option maxRecDepth 100000 in
theorem xth2 : xm_tq (10, 230, 16) := by
  intro cls hc
  cases hc
  refine ⟨xh1 (i := 26) rfl rfl, by decide +kernel, fun w hw => ⟨?_, List.all_eq_true.mp xth2c w hw⟩⟩
  by_cases hg : goodWord w = true
  · exact Or.inl (List.mem_filter.mpr ⟨List.mem_append_right _ (xth2a w (List.mem_filter.mpr ⟨hw, hg⟩)), hg⟩)
  · exact Or.inr (xth2b w (List.mem_filter.mpr ⟨hw, by simpa using hg⟩))
theorem xTH_ok : ∀ q ∈ xTH, xm_tq q := List.forall_mem_cons.mpr ⟨xth0, List.forall_mem_cons.mpr ⟨xth1, List.forall_mem_cons.mpr ⟨xth2, fun _ h => absurd h List.not_mem_nil⟩⟩⟩
set_option maxRecDepth 100000 in
theorem xcast : ∀ nm ∈ xec, Cond.castable nm nm ∈ xnw := List.forall_mem_cons.mpr ⟨xn4 (i := 140) rfl rfl, List.forall_mem_cons.mpr ⟨xn3 (i := 78) rfl rfl, List.forall_mem_cons.mpr ⟨xn5 (i := 152) rfl rfl, fun _ h => absurd h List.not_mem_nil⟩⟩⟩
set_option maxRecDepth 100000 in
theorem xql : ∀ q ∈ xQL, Cond.fieldLink q.1 q.2.1 q.2.2.1 q.2.2.2.1 q.2.2.2.2 ∈ xgd := List.forall_mem_cons.mpr ⟨xh3 (i := 201) rfl rfl, fun _ h => absurd h List.not_mem_nil⟩
/-! the checker: calls, returns, throws -/
def xm_chkX (SL : xm_SL) (QL : xm_QL) (o : Nat) (M : xm_M) (pc : Nat) (e : xm_E) : Bool := match e.1 with
  | .invokestatic idx => (match xm_p0 e.2.2.1 0 with
    | 0 => true
    | 3 => true
    | 10 => true
    | 9 => true
    | 11 => true
    | 12 => true
    | _ => false) && xML.contains (o, idx, xm_p0 e.2.2.1 0, xm_p0 e.2.2.1 1, xm_p0 e.2.2.1 2, xm_p0 e.2.2.1 3)
  | .invokevirtual idx => (match xm_p0 e.2.2.1 0 with
    | 1 => true
    | 6 => true
    | _ => false) && xML.contains (o, idx, xm_p0 e.2.2.1 0, xm_p0 e.2.2.1 1, xm_p0 e.2.2.1 2, xm_p0 e.2.2.1 3)
  | .invokespecial idx => (match xm_p0 e.2.2.1 0 with
    | 2 => true
    | 4 => true
    | 7 => true
    | 8 => true
    | _ => false) && xML.contains (o, idx, xm_p0 e.2.2.1 0, xm_p0 e.2.2.1 1, xm_p0 e.2.2.1 2, xm_p0 e.2.2.1 3)
  | .dreturn => decide (M.2.2.2.2.2 = some .double)
  | .areturn => match M.2.2.2.2.2 with
    | some (.object _) => true
    | some (.array _) => true
    | _ => false
  | .return_ => decide (M.2.2.2.2.2 = none)
  | .new ik => decide (xm_p0 e.2.2.1 0 = 0) || (decide (M.2.1 = []) && decide (14 ≤ xm_p0 e.2.2.1 1) && decide (xm_p0 e.2.2.1 1 < 17) && decide (decode M.2.2.2.1 (pc + 3) = .ok (.dup, 1)) && (match xec[xm_p0 e.2.2.1 1 - 14]? with
    | some cls => xCL.contains (o, ik, cls) && (match decode M.2.2.2.1 (pc + 4) with
      | .ok (.ldc is, 2) => SL.any (fun q => q.1 == M.2.2.1.cls && q.2.1 == is) && (match decode M.2.2.2.1 (pc + 6) with
        | .ok (.invokespecial ic, 3) => decide ((o, ic, xm_p0 e.2.2.1 1) ∈ xTH) && decide (decode M.2.2.2.1 (pc + 9) = .ok (.athrow, 1))
        | _ => false)
      | .ok (.ldc_w is, 3) => SL.any (fun q => q.1 == M.2.2.1.cls && q.2.1 == is) && (match decode M.2.2.2.1 (pc + 7) with
        | .ok (.invokespecial ic, 3) => decide ((o, ic, xm_p0 e.2.2.1 1) ∈ xTH) && decide (decode M.2.2.2.1 (pc + 10) = .ok (.athrow, 1))
        | _ => false)
      | _ => false)
    | none => false))
  | .getstatic idx => decide (xm_p0 e.2.2.1 0 = 0) || QL.any (fun q => q.1 == M.2.2.1.cls && q.2.1 == idx)
  | _ => true
set_option maxHeartbeats 4000000 in
set_option maxRecDepth 100000 in
theorem xm_chkX_ok {o : Nat} {M : xm_M} (ho : xon.getD o "" = M.2.2.1.cls) {pc : Nat} {e : xm_E} (h : xm_chkX xSL xQL o M pc e = true) : xm_okX xSL xQL xX M pc e := by
  obtain ⟨i, mk, pl, cv⟩ := e
  have ml : ∀ {idx a b c d : Nat}, xML.contains (o, idx, a, b, c, d) = true → xm_mk2 M.2.2.1.cls idx a b c d := fun {idx a b c d} hc => by
    have := xML_ok _ (List.contains_iff_mem.mp hc)
    unfold xm_mq at this
    rw [ho] at this
    exact this
  have cl : ∀ {idx : Nat} {C : String}, xCL.contains (o, idx, C) = true → Cond.classLink M.2.2.1.cls idx C ∈ xgd := fun {idx C} hc => by
    have := xCL_ok _ (List.contains_iff_mem.mp hc)
    unfold xm_cq at this
    rw [ho] at this
    exact this
  cases i
  all_goals (try trivial)
  case invokestatic idx =>
    simp only [xm_chkX, Bool.and_eq_true] at h
    have h2 := ml h.2
    have h1 := h.1
    simp only [xm_okX]
    split at h1
    all_goals (first | (cases h1; done) | (rename_i k0; simp only [k0] at h2 ⊢; exact h2))
  case invokevirtual idx =>
    simp only [xm_chkX, Bool.and_eq_true] at h
    have h2 := ml h.2
    have h1 := h.1
    simp only [xm_okX]
    split at h1
    · rename_i k0
      simp only [k0] at h2 ⊢
      exact h2
    · rename_i k0
      simp only [k0] at h2 ⊢
      exact h2
    · cases h1
  case invokespecial idx =>
    simp only [xm_chkX, Bool.and_eq_true] at h
    have h2 := ml h.2
    have h1 := h.1
    simp only [xm_okX]
    split at h1
    · rename_i k0
      simp only [k0] at h2 ⊢
      exact h2
    · rename_i k0
      simp only [k0] at h2 ⊢
      exact h2
    · rename_i k0
      simp only [k0] at h2 ⊢
      exact h2
    · rename_i k0
      simp only [k0] at h2 ⊢
      exact h2
    · cases h1
  case dreturn => simp only [xm_chkX, decide_eq_true_eq] at h; exact h
  case areturn =>
    simp only [xm_chkX] at h
    split at h
    · rename_i n hn
      exact ⟨_, hn, Or.inl ⟨_, rfl⟩⟩
    · rename_i n hn
      exact ⟨_, hn, Or.inr ⟨_, rfl⟩⟩
    · cases h
  case return_ => simp only [xm_chkX, decide_eq_true_eq] at h; exact h
  case new ik =>
    intro h0
    simp only [xm_chkX, Bool.or_eq_true, Bool.and_eq_true, decide_eq_true_eq] at h
    rcases h with h | h
    · exact absurd h h0
    · obtain ⟨⟨⟨⟨h1, h2⟩, h3⟩, h4⟩, h5⟩ := h
      split at h5
      · rename_i cls hcls
        simp only [Bool.and_eq_true] at h5
        obtain ⟨h6, h7⟩ := h5
        have str : ∀ {is : Nat}, xSL.any (fun q => q.1 == M.2.2.1.cls && q.2.1 == is) = true → ∃ text i, (M.2.2.1.cls, is, text, i) ∈ xSL := fun {is} hs => by
          obtain ⟨q, hq, g2⟩ := List.any_eq_true.mp hs
          simp only [Bool.and_eq_true, beq_iff_eq] at g2
          obtain ⟨q1, q2, q3, q4⟩ := q
          dsimp only at g2
          obtain ⟨rfl, rfl⟩ := g2
          exact ⟨q3, q4, hq⟩
        split at h7
        · rename_i is hd4
          simp only [Bool.and_eq_true] at h7
          obtain ⟨g1, g2⟩ := h7
          obtain ⟨text, i, hi⟩ := str g1
          split at g2
          · rename_i ic hd6
            simp only [Bool.and_eq_true, decide_eq_true_eq] at g2
            obtain ⟨p1, p2, p3⟩ := xTH_ok _ g2.1 cls hcls
            rw [ho] at p3
            exact ⟨cls, text, i, is, ic, h1, hcls, h2, h3, hi, cl h6, p1, p2, p3, h4, Or.inl ⟨hd4, hd6, g2.2⟩⟩
          · cases g2
        · rename_i is hd4
          simp only [Bool.and_eq_true] at h7
          obtain ⟨g1, g2⟩ := h7
          obtain ⟨text, i, hi⟩ := str g1
          split at g2
          · rename_i ic hd6
            simp only [Bool.and_eq_true, decide_eq_true_eq] at g2
            obtain ⟨p1, p2, p3⟩ := xTH_ok _ g2.1 cls hcls
            rw [ho] at p3
            exact ⟨cls, text, i, is, ic, h1, hcls, h2, h3, hi, cl h6, p1, p2, p3, h4, Or.inr ⟨hd4, hd6, g2.2⟩⟩
          · cases g2
        · cases h7
      · cases h5
  case getstatic idx =>
    intro h0
    simp only [xm_chkX, Bool.or_eq_true, decide_eq_true_eq] at h
    rcases h with h | h
    · exact absurd h h0
    · obtain ⟨q, hq, h2⟩ := List.any_eq_true.mp h
      simp only [Bool.and_eq_true, beq_iff_eq] at h2
      have x4 := xql q hq
      obtain ⟨q1, q2, q3, q4, q5⟩ := q
      dsimp only at h2 x4
      obtain ⟨rfl, rfl⟩ := h2
      exact ⟨q3, q4, q5, hq, x4⟩
def xm_dec (M : xm_M) : Bool := M.1.all (fun row => row.all (fun q => decide (decode M.2.2.2.1 q.1 = .ok (q.2.1, xm_lenE q.2))))
def xm_chkM (SL : xm_SL) (ZL : xm_ZL) (QL : xm_QL) (CI : List (Nat × Nat × Int32)) (CJ : List (Nat × Nat × Int64)) (o : Nat) (M : xm_M) : Bool :=
  M.1.all (fun row => row.all (fun q => xm_chkG SL ZL CI CJ o M.2.2.1.cls M.2.2.1.name q.1 q.2 && xm_chkX SL QL o M q.1 q.2 && (match q.2.2.1 with
    | some m => decide (m.length = M.2.2.2.2.1)
    | none => true))) &&
  M.2.1.all (fun x => decide (14 ≤ x.2.2.2.2) && decide (x.2.2.2.1 ≠ 0) && (match xec[x.2.2.2.2 - 14]? with
    | some nm => xCL.contains (o, x.2.2.2.1, nm)
    | none => false)) && plainName M.2.2.1.cls && decide (xon.getD o "" = M.2.2.1.cls)
theorem xm_at_mem {M : xm_M} {pc : Nat} {e : xm_E} (h : xm_at M pc = some e) : ∃ row ∈ M.1, (pc, e) ∈ row := by
  unfold xm_at at h
  split at h
  · rename_i row hr
    refine ⟨row, List.mem_of_getElem? hr, ?_⟩
    clear hr
    induction row with
    | nil => cases h
    | cons q r ih =>
      obtain ⟨a, b⟩ := q
      simp only [List.lookup] at h
      split at h
      · rename_i hb
        have : pc = a := by simpa using hb
        subst this
        cases h
        exact List.mem_cons_self
      · exact List.mem_cons_of_mem _ (ih h)
  · cases h
theorem xm_okM_of (ht : xm_tabs xSL xZL xCI xCJ) {o : Nat} {M : xm_M} (ho : xm_chkM xSL xZL xQL xCI xCJ o M = xm_chkM xSL xZL xQL xCI xCJ o M) (h : xm_chkM xSL xZL xQL xCI xCJ o M = true) (hd : xm_dec M = true) : xm_okM xSL xZL xQL xX M := by
  unfold xm_chkM at h
  simp only [Bool.and_eq_true, decide_eq_true_eq] at h
  obtain ⟨⟨⟨h1, h2⟩, h3⟩, h4⟩ := h
  refine ⟨fun pc e he => ?_, fun x hx => ?_, h3⟩
  · obtain ⟨row, hr, hq⟩ := xm_at_mem he
    have g1 := List.all_eq_true.mp (List.all_eq_true.mp h1 row hr) _ hq
    have g2 := List.all_eq_true.mp (List.all_eq_true.mp hd row hr) _ hq
    simp only [Bool.and_eq_true] at g1
    refine ⟨of_decide_eq_true g2, xm_chkG_ok ht h4 g1.1.1, xm_chkX_ok h4 g1.1.2, fun m hm => ?_⟩
    have g3 := g1.2
    simp only [hm, decide_eq_true_eq] at g3
    exact g3
  · have g := List.all_eq_true.mp h2 x hx
    simp only [Bool.and_eq_true, decide_eq_true_eq] at g
    obtain ⟨⟨g1, g2⟩, g3⟩ := g
    refine ⟨g1, g2, ?_⟩
    split at g3
    · rename_i nm hnm
      have := xCL_ok _ (List.contains_iff_mem.mp g3)
      unfold xm_cq at this
      rw [h4] at this
      exact ⟨nm, hnm, this, xcast nm (List.mem_of_getElem? hnm)⟩
    · cases g3

