/-! printed by wip/gen/gen04.py: the classes of the little machine, their fields, and the words on them -/
theorem xt1 {i : Nat} {w : Cond} (h : tables_1_1[i]? = some w) : w ∈ tables_1 := List.mem_append_left _ (List.mem_of_getElem? h)
theorem xt2 {i : Nat} {w : Cond} (h : tables_1_2[i]? = some w) : w ∈ tables_1 := List.mem_append_right _ (List.mem_append_left _ (List.mem_of_getElem? h))
theorem xt3 {i : Nat} {w : Cond} (h : tables_1_3[i]? = some w) : w ∈ tables_1 := List.mem_append_right _ (List.mem_append_right _ (List.mem_append_left _ (List.mem_of_getElem? h)))
theorem xt4 {i : Nat} {w : Cond} (h : tables_1_4[i]? = some w) : w ∈ tables_1 := List.mem_append_right _ (List.mem_append_right _ (List.mem_append_right _ (List.mem_append_left _ (List.mem_of_getElem? h))))
theorem xt5 {i : Nat} {w : Cond} (h : tables_1_5[i]? = some w) : w ∈ tables_1 := List.mem_append_right _ (List.mem_append_right _ (List.mem_append_right _ (List.mem_append_right _ (List.mem_append_left _ (List.mem_of_getElem? h)))))
theorem xt6 {i : Nat} {w : Cond} (h : tables_1_6[i]? = some w) : w ∈ tables_1 := List.mem_append_right _ (List.mem_append_right _ (List.mem_append_right _ (List.mem_append_right _ (List.mem_append_right _ (List.mem_append_left _ (List.mem_of_getElem? h))))))
theorem xt7 {i : Nat} {w : Cond} (h : tables_1_7[i]? = some w) : w ∈ tables_1 := List.mem_append_right _ (List.mem_append_right _ (List.mem_append_right _ (List.mem_append_right _ (List.mem_append_right _ (List.mem_append_right _ (List.mem_append_left _ (List.mem_of_getElem? h)))))))
theorem xt8 {i : Nat} {w : Cond} (h : tables_1_8[i]? = some w) : w ∈ tables_1 := List.mem_append_right _ (List.mem_append_right _ (List.mem_append_right _ (List.mem_append_right _ (List.mem_append_right _ (List.mem_append_right _ (List.mem_append_right _ (List.mem_append_left _ (List.mem_of_getElem? h))))))))
theorem xt9 {i : Nat} {w : Cond} (h : tables_1_9[i]? = some w) : w ∈ tables_1 := List.mem_append_right _ (List.mem_append_right _ (List.mem_append_right _ (List.mem_append_right _ (List.mem_append_right _ (List.mem_append_right _ (List.mem_append_right _ (List.mem_append_right _ (List.mem_of_getElem? h))))))))
/-! private methods that are called on an object of a subclass -/
abbrev xex : List MethodName := [⟨"java/lang/AbstractStringBuilder", "ensureCapacityInternal", "(I)V"⟩, ⟨"java/lang/AbstractStringBuilder", "newCapacity", "(I)I"⟩, ⟨"java/lang/AbstractStringBuilder", "inflate", "()V"⟩, ⟨"java/lang/AbstractStringBuilder", "appendNull", "()Ljava/lang/AbstractStringBuilder;"⟩, ⟨"java/lang/AbstractStringBuilder", "putStringAt", "(ILjava/lang/String;)V"⟩, ⟨"java/lang/AbstractStringBuilder", "inflateIfNeededFor", "(Ljava/lang/String;)V"⟩]
def xxt : List Cond := xex.map (fun y => Cond.selects "java/lang/StringBuilder" y y) ++ lw_tbl
def xgd : List Cond := xxt.filter goodWord
theorem xm_selP {C : String} {z y : MethodName} {s : State} {args : Array Value} (hc : z.cls = y.cls) (hz : z.cls ≠ "java/lang/invoke/MethodHandle" ∧ z.cls ≠ "java/lang/invoke/VarHandle") (hs : (Cond.selects C z z).before args s = true) (hpriv : (Cond.privateMethod y).before args s = true) (hinst : (Cond.instanceMethod y).before args s = true) : (Cond.selects C y y).before args s = true := by
  obtain ⟨c2, r2, m2, q1, q2, q3, q4, kP, hkP, hkPi⟩ := Cond.selects_spec hs
  obtain ⟨mk, methM, hnamed, hmethM, -, -⟩ := Cond.instanceMethod_spec hinst
  have hfound : s.methodFound? y.cls y.name y.desc = some mk := State.methodFound?_of_named hnamed (by rw [← hc]; exact hz)
  have hr : r2 = m2 := Option.some.inj (q2.symm.trans (State.methodFound?_of_named q3 hz))
  subst hr
  have hcls : mk.cls = r2.cls := by
    have h1 := findClass_of_methodNamed hnamed
    have h2 := findClass_of_methodNamed q3
    rw [hc] at h2
    exact Option.some.inj (h1.symm.trans h2)
  have hsel : selectMethod {} s.vm c2 mk = .method mk := selectMethod_private hmethM (Cond.privateMethod_at hpriv mk methM hnamed hmethM)
  simp only [Cond.before, Cond.holds, Cond.value, q1, hfound, hnamed, hsel, hcls, hkP]
  simp; exact hkPi
set_option maxRecDepth 100000 in
theorem xxt_ok {s : State} {args : Array Value} (hts : ∀ w ∈ lw_tbl, w.before args s = true) : ∀ w ∈ xxt, w.before args s = true := by
  have ht : ∀ w ∈ tables_1, w.before args s = true := fun w h => hts w (List.mem_append_right _ h)
  have hz : (Cond.selects "java/lang/StringBuilder" ⟨"java/lang/AbstractStringBuilder", "isLatin1", "()Z"⟩ ⟨"java/lang/AbstractStringBuilder", "isLatin1", "()Z"⟩).before args s = true := ht _ (xt6 (i := 135) rfl)
  intro w hw
  rcases List.mem_append.mp hw with h | h
  · obtain ⟨y, hy, rfl⟩ := List.mem_map.mp h
    simp only [xex, List.mem_cons, List.not_mem_nil, or_false] at hy
    rcases hy with rfl | rfl | rfl | rfl | rfl | rfl
    · exact xm_selP (z := ⟨"java/lang/AbstractStringBuilder", "isLatin1", "()Z"⟩) rfl ⟨by decide, by decide⟩ hz (ht _ (xt6 (i := 104) rfl)) (ht _ (xt6 (i := 105) rfl))
    · exact xm_selP (z := ⟨"java/lang/AbstractStringBuilder", "isLatin1", "()Z"⟩) rfl ⟨by decide, by decide⟩ hz (ht _ (xt6 (i := 108) rfl)) (ht _ (xt6 (i := 109) rfl))
    · exact xm_selP (z := ⟨"java/lang/AbstractStringBuilder", "isLatin1", "()Z"⟩) rfl ⟨by decide, by decide⟩ hz (ht _ (xt6 (i := 160) rfl)) (ht _ (xt6 (i := 161) rfl))
    · exact xm_selP (z := ⟨"java/lang/AbstractStringBuilder", "isLatin1", "()Z"⟩) rfl ⟨by decide, by decide⟩ hz (ht _ (xt6 (i := 100) rfl)) (ht _ (xt6 (i := 101) rfl))
    · exact xm_selP (z := ⟨"java/lang/AbstractStringBuilder", "isLatin1", "()Z"⟩) rfl ⟨by decide, by decide⟩ hz (ht _ (xt6 (i := 151) rfl)) (ht _ (xt6 (i := 152) rfl))
    · exact xm_selP (z := ⟨"java/lang/AbstractStringBuilder", "isLatin1", "()Z"⟩) rfl ⟨by decide, by decide⟩ hz (ht _ (xt6 (i := 155) rfl)) (ht _ (xt6 (i := 156) rfl))
  · exact hts w h
theorem xg_ex {i : Nat} {y : MethodName} (h : xex[i]? = some y) : Cond.selects "java/lang/StringBuilder" y y ∈ xgd := List.mem_filter.mpr ⟨List.mem_append_left _ (List.mem_map.mpr ⟨y, List.mem_of_getElem? h, rfl⟩), by first | rfl | simp [goodWord, Cond.onTables, Cond.keeps, Cond.steady]⟩
theorem xg_of {i : Nat} {w : Cond} (h : tables_1[i]? = some w) (g : goodWord w = true) : w ∈ xgd := List.mem_filter.mpr ⟨List.mem_append_right _ (List.mem_append_right _ (List.mem_of_getElem? h)), g⟩
theorem xg_sel {i : Nat} {q : MethodName × Nat} (h : lw_privs[i]? = some q) : Cond.selects q.1.cls q.1 q.1 ∈ xgd := List.mem_filter.mpr ⟨List.mem_append_right _ (List.mem_append_left _ (List.mem_map.mpr ⟨q, List.mem_of_getElem? h, rfl⟩)), by first | rfl | simp [goodWord, Cond.onTables, Cond.keeps, Cond.steady]⟩
def xT0 : u_T := fun k => match k with
  | 0 => ("AdMarketplace", "parser", "LAdMarketplace$Parser;", true)
  | 1 => ("AdMarketplace", "exchange", "LAdMarketplace$Exchange;", true)
  | 2 => ("AdMarketplace", "beforeTrial", "LAdMarketplace$Standing;", true)
  | 3 => ("AdMarketplace", "converted", "LAdMarketplace$Conversions;", true)
  | 4 => ("AdMarketplace", "history", "LAdMarketplace$History;", true)
  | _ => ("AdMarketplace", "output", "Ljava/lang/StringBuilder;", true)
def xY0 : Nat → FieldType := fun k => match k with
  | 0 => .object "AdMarketplace$Parser"
  | 1 => .object "AdMarketplace$Exchange"
  | 2 => .object "AdMarketplace$Standing"
  | 3 => .object "AdMarketplace$Conversions"
  | 4 => .object "AdMarketplace$History"
  | _ => .object "java/lang/StringBuilder"
theorem xN0 : ∀ a, a < 6 → ∀ b, b < 6 → a ≠ b → (xT0 a).2.1 ≠ (xT0 b).2.1 := by decide +kernel
theorem xP0 : ∀ k, k < 6 → parseFieldDescriptor (xT0 k).2.2.1 = some (xY0 k) := by decide +kernel
theorem xI0 : ∀ w ∈ u_ws "AdMarketplace" xT0 6, w ∈ xgd := by
  have hp : u_ws "AdMarketplace" xT0 6 = [457, 459, 461, 463, 465, 467].filterMap (fun i => tables_1[i]?) := by decide +kernel
  have hg : (u_ws "AdMarketplace" xT0 6).all goodWord = true := by decide +kernel
  intro w hw
  have h1 := List.all_eq_true.mp hg w hw
  rw [hp] at hw
  obtain ⟨i, -, hi⟩ := List.mem_filterMap.mp hw
  exact xg_of hi h1
def xT1 : u_T := fun k => match k with
  | 0 => ("AdMarketplace$Campaign", "name", "Ljava/lang/String;", false)
  | 1 => ("AdMarketplace$Campaign", "bid", "I", false)
  | 2 => ("AdMarketplace$Campaign", "budget", "I", false)
  | 3 => ("AdMarketplace$Campaign", "cap", "I", false)
  | 4 => ("AdMarketplace$Campaign", "window", "I", false)
  | 5 => ("AdMarketplace$Campaign", "target", "I", false)
  | 6 => ("AdMarketplace$Campaign", "mode", "I", false)
  | _ => ("AdMarketplace$Campaign", "apart", "I", false)
def xY1 : Nat → FieldType := fun k => match k with
  | 0 => .object "java/lang/String"
  | 1 => .int
  | 2 => .int
  | 3 => .int
  | 4 => .int
  | 5 => .int
  | 6 => .int
  | _ => .int
theorem xN1 : ∀ a, a < 8 → ∀ b, b < 8 → a ≠ b → (xT1 a).2.1 ≠ (xT1 b).2.1 := by decide +kernel
theorem xP1 : ∀ k, k < 8 → parseFieldDescriptor (xT1 k).2.2.1 = some (xY1 k) := by decide +kernel
theorem xI1 : ∀ w ∈ u_ws "AdMarketplace$Campaign" xT1 8, w ∈ xgd := by
  have hp : u_ws "AdMarketplace$Campaign" xT1 8 = [129, 131, 133, 135, 137, 139, 141, 143].filterMap (fun i => tables_1[i]?) := by decide +kernel
  have hg : (u_ws "AdMarketplace$Campaign" xT1 8).all goodWord = true := by decide +kernel
  intro w hw
  have h1 := List.all_eq_true.mp hg w hw
  rw [hp] at hw
  obtain ⟨i, -, hi⟩ := List.mem_filterMap.mp hw
  exact xg_of hi h1
def xT2 : u_T := fun k => match k with
  | 0 => ("AdMarketplace$Conversions", "values", "[I", true)
  | 1 => ("AdMarketplace$Conversions", "firsts", "[I", true)
  | 2 => ("AdMarketplace$Conversions", "lasts", "[I", true)
  | 3 => ("AdMarketplace$Conversions", "totals", "[I", true)
  | _ => ("AdMarketplace$Conversions", "shares", "[I", true)
def xY2 : Nat → FieldType := fun k => match k with
  | 0 => .array .int
  | 1 => .array .int
  | 2 => .array .int
  | 3 => .array .int
  | _ => .array .int
theorem xN2 : ∀ a, a < 5 → ∀ b, b < 5 → a ≠ b → (xT2 a).2.1 ≠ (xT2 b).2.1 := by decide +kernel
theorem xP2 : ∀ k, k < 5 → parseFieldDescriptor (xT2 k).2.2.1 = some (xY2 k) := by decide +kernel
theorem xI2 : ∀ w ∈ u_ws "AdMarketplace$Conversions" xT2 5, w ∈ xgd := by
  have hp : u_ws "AdMarketplace$Conversions" xT2 5 = [388, 390, 392, 394, 396].filterMap (fun i => tables_1[i]?) := by decide +kernel
  have hg : (u_ws "AdMarketplace$Conversions" xT2 5).all goodWord = true := by decide +kernel
  intro w hw
  have h1 := List.all_eq_true.mp hg w hw
  rw [hp] at hw
  obtain ⟨i, -, hi⟩ := List.mem_filterMap.mp hw
  exact xg_of hi h1
def xT3 : u_T := fun k => match k with
  | 0 => ("AdMarketplace$Exchange", "rules", "LAdMarketplace$Rules;", false)
  | 1 => ("AdMarketplace$Exchange", "now", "LAdMarketplace$Standing;", true)
  | 2 => ("AdMarketplace$Exchange", "shown", "LAdMarketplace$Impressions;", true)
  | 3 => ("AdMarketplace$Exchange", "recents", "[I", true)
  | 4 => ("AdMarketplace$Exchange", "paced", "[I", true)
  | 5 => ("AdMarketplace$Exchange", "order", "[I", true)
  | 6 => ("AdMarketplace$Exchange", "contenders", "I", false)
  | 7 => ("AdMarketplace$Exchange", "winners", "[I", true)
  | 8 => ("AdMarketplace$Exchange", "prices", "[I", true)
  | _ => ("AdMarketplace$Exchange", "filled", "I", false)
def xY3 : Nat → FieldType := fun k => match k with
  | 0 => .object "AdMarketplace$Rules"
  | 1 => .object "AdMarketplace$Standing"
  | 2 => .object "AdMarketplace$Impressions"
  | 3 => .array .int
  | 4 => .array .int
  | 5 => .array .int
  | 6 => .int
  | 7 => .array .int
  | 8 => .array .int
  | _ => .int
theorem xN3 : ∀ a, a < 10 → ∀ b, b < 10 → a ≠ b → (xT3 a).2.1 ≠ (xT3 b).2.1 := by decide +kernel
theorem xP3 : ∀ k, k < 10 → parseFieldDescriptor (xT3 k).2.2.1 = some (xY3 k) := by decide +kernel
theorem xI3 : ∀ w ∈ u_ws "AdMarketplace$Exchange" xT3 10, w ∈ xgd := by
  have hp : u_ws "AdMarketplace$Exchange" xT3 10 = [351, 353, 355, 357, 359, 361, 363, 365, 367, 369].filterMap (fun i => tables_1[i]?) := by decide +kernel
  have hg : (u_ws "AdMarketplace$Exchange" xT3 10).all goodWord = true := by decide +kernel
  intro w hw
  have h1 := List.all_eq_true.mp hg w hw
  rw [hp] at hw
  obtain ⟨i, -, hi⟩ := List.mem_filterMap.mp hw
  exact xg_of hi h1
def xT4 : u_T := fun k => match k with
  | 0 => ("AdMarketplace$History", "ring", "[LAdMarketplace$Standing;", true)
  | 1 => ("AdMarketplace$History", "latest", "I", false)
  | _ => ("AdMarketplace$History", "count", "I", false)
def xY4 : Nat → FieldType := fun k => match k with
  | 0 => .array (.object "AdMarketplace$Standing")
  | 1 => .int
  | _ => .int
theorem xN4 : ∀ a, a < 3 → ∀ b, b < 3 → a ≠ b → (xT4 a).2.1 ≠ (xT4 b).2.1 := by decide +kernel
theorem xP4 : ∀ k, k < 3 → parseFieldDescriptor (xT4 k).2.2.1 = some (xY4 k) := by decide +kernel
theorem xI4 : ∀ w ∈ u_ws "AdMarketplace$History" xT4 3, w ∈ xgd := by
  have hp : u_ws "AdMarketplace$History" xT4 3 = [412, 414, 416].filterMap (fun i => tables_1[i]?) := by decide +kernel
  have hg : (u_ws "AdMarketplace$History" xT4 3).all goodWord = true := by decide +kernel
  intro w hw
  have h1 := List.all_eq_true.mp hg w hw
  rw [hp] at hw
  obtain ⟨i, -, hi⟩ := List.mem_filterMap.mp hw
  exact xg_of hi h1
def xT5 : u_T := fun k => match k with
  | 0 => ("AdMarketplace$Impressions", "ticks", "[I", true)
  | 1 => ("AdMarketplace$Impressions", "users", "[I", true)
  | 2 => ("AdMarketplace$Impressions", "campaigns", "[I", true)
  | 3 => ("AdMarketplace$Impressions", "slots", "[I", true)
  | _ => ("AdMarketplace$Impressions", "prices", "[I", true)
def xY5 : Nat → FieldType := fun k => match k with
  | 0 => .array .int
  | 1 => .array .int
  | 2 => .array .int
  | 3 => .array .int
  | _ => .array .int
theorem xN5 : ∀ a, a < 5 → ∀ b, b < 5 → a ≠ b → (xT5 a).2.1 ≠ (xT5 b).2.1 := by decide +kernel
theorem xP5 : ∀ k, k < 5 → parseFieldDescriptor (xT5 k).2.2.1 = some (xY5 k) := by decide +kernel
theorem xI5 : ∀ w ∈ u_ws "AdMarketplace$Impressions" xT5 5, w ∈ xgd := by
  have hp : u_ws "AdMarketplace$Impressions" xT5 5 = [321, 323, 325, 327, 329].filterMap (fun i => tables_1[i]?) := by decide +kernel
  have hg : (u_ws "AdMarketplace$Impressions" xT5 5).all goodWord = true := by decide +kernel
  intro w hw
  have h1 := List.all_eq_true.mp hg w hw
  rw [hp] at hw
  obtain ⟨i, -, hi⟩ := List.mem_filterMap.mp hw
  exact xg_of hi h1
def xT6 : u_T := fun k => match k with
  | 0 => ("AdMarketplace$Parser", "tokens", "LAdMarketplace$Tokens;", true)
  | 1 => ("AdMarketplace$Parser", "value", "I", false)
  | 2 => ("AdMarketplace$Parser", "found", "I", false)
  | 3 => ("AdMarketplace$Parser", "draft", "LAdMarketplace$Rules;", false)
  | 4 => ("AdMarketplace$Parser", "failure", "I", false)
  | _ => ("AdMarketplace$Parser", "failedAt", "I", false)
def xY6 : Nat → FieldType := fun k => match k with
  | 0 => .object "AdMarketplace$Tokens"
  | 1 => .int
  | 2 => .int
  | 3 => .object "AdMarketplace$Rules"
  | 4 => .int
  | _ => .int
theorem xN6 : ∀ a, a < 6 → ∀ b, b < 6 → a ≠ b → (xT6 a).2.1 ≠ (xT6 b).2.1 := by decide +kernel
theorem xP6 : ∀ k, k < 6 → parseFieldDescriptor (xT6 k).2.2.1 = some (xY6 k) := by decide +kernel
theorem xI6 : ∀ w ∈ u_ws "AdMarketplace$Parser" xT6 6, w ∈ xgd := by
  have hp : u_ws "AdMarketplace$Parser" xT6 6 = [210, 212, 214, 216, 218, 220].filterMap (fun i => tables_1[i]?) := by decide +kernel
  have hg : (u_ws "AdMarketplace$Parser" xT6 6).all goodWord = true := by decide +kernel
  intro w hw
  have h1 := List.all_eq_true.mp hg w hw
  rw [hp] at hw
  obtain ⟨i, -, hi⟩ := List.mem_filterMap.mp hw
  exact xg_of hi h1
def xT7 : u_T := fun k => match k with
  | 0 => ("AdMarketplace$Rules", "dayTicks", "I", false)
  | 1 => ("AdMarketplace$Rules", "attributionTicks", "I", false)
  | 2 => ("AdMarketplace$Rules", "factors", "[I", true)
  | 3 => ("AdMarketplace$Rules", "factorCount", "I", false)
  | 4 => ("AdMarketplace$Rules", "tags", "[LAdMarketplace$Tag;", true)
  | 5 => ("AdMarketplace$Rules", "tagCount", "I", false)
  | 6 => ("AdMarketplace$Rules", "campaigns", "[LAdMarketplace$Campaign;", true)
  | 7 => ("AdMarketplace$Rules", "campaignCount", "I", false)
  | _ => ("AdMarketplace$Rules", "apartCount", "I", false)
def xY7 : Nat → FieldType := fun k => match k with
  | 0 => .int
  | 1 => .int
  | 2 => .array .int
  | 3 => .int
  | 4 => .array (.object "AdMarketplace$Tag")
  | 5 => .int
  | 6 => .array (.object "AdMarketplace$Campaign")
  | 7 => .int
  | _ => .int
theorem xN7 : ∀ a, a < 9 → ∀ b, b < 9 → a ≠ b → (xT7 a).2.1 ≠ (xT7 b).2.1 := by decide +kernel
theorem xP7 : ∀ k, k < 9 → parseFieldDescriptor (xT7 k).2.2.1 = some (xY7 k) := by decide +kernel
theorem xI7 : ∀ w ∈ u_ws "AdMarketplace$Rules" xT7 9, w ∈ xgd := by
  have hp : u_ws "AdMarketplace$Rules" xT7 9 = [181, 183, 185, 187, 189, 191, 193, 195, 197].filterMap (fun i => tables_1[i]?) := by decide +kernel
  have hg : (u_ws "AdMarketplace$Rules" xT7 9).all goodWord = true := by decide +kernel
  intro w hw
  have h1 := List.all_eq_true.mp hg w hw
  rw [hp] at hw
  obtain ⟨i, -, hi⟩ := List.mem_filterMap.mp hw
  exact xg_of hi h1
def xT8 : u_T := fun k => match k with
  | 0 => ("AdMarketplace$Standing", "present", "I", false)
  | 1 => ("AdMarketplace$Standing", "dayTicksPassed", "I", false)
  | 2 => ("AdMarketplace$Standing", "shownCount", "I", false)
  | 3 => ("AdMarketplace$Standing", "convertedCount", "I", false)
  | 4 => ("AdMarketplace$Standing", "floors", "[I", true)
  | 5 => ("AdMarketplace$Standing", "bids", "[I", true)
  | 6 => ("AdMarketplace$Standing", "budgets", "[I", true)
  | 7 => ("AdMarketplace$Standing", "modes", "[I", true)
  | 8 => ("AdMarketplace$Standing", "spendings", "[I", true)
  | 9 => ("AdMarketplace$Standing", "multipliers", "[I", true)
  | _ => ("AdMarketplace$Standing", "paused", "[Z", true)
def xY8 : Nat → FieldType := fun k => match k with
  | 0 => .int
  | 1 => .int
  | 2 => .int
  | 3 => .int
  | 4 => .array .int
  | 5 => .array .int
  | 6 => .array .int
  | 7 => .array .int
  | 8 => .array .int
  | 9 => .array .int
  | _ => .array .boolean
theorem xN8 : ∀ a, a < 11 → ∀ b, b < 11 → a ≠ b → (xT8 a).2.1 ≠ (xT8 b).2.1 := by decide +kernel
theorem xP8 : ∀ k, k < 11 → parseFieldDescriptor (xT8 k).2.2.1 = some (xY8 k) := by decide +kernel
theorem xI8 : ∀ w ∈ u_ws "AdMarketplace$Standing" xT8 11, w ∈ xgd := by
  have hp : u_ws "AdMarketplace$Standing" xT8 11 = [268, 270, 272, 274, 276, 278, 280, 282, 284, 286, 288].filterMap (fun i => tables_1[i]?) := by decide +kernel
  have hg : (u_ws "AdMarketplace$Standing" xT8 11).all goodWord = true := by decide +kernel
  intro w hw
  have h1 := List.all_eq_true.mp hg w hw
  rw [hp] at hw
  obtain ⟨i, -, hi⟩ := List.mem_filterMap.mp hw
  exact xg_of hi h1
def xT9 : u_T := fun k => match k with
  | 0 => ("AdMarketplace$Tag", "name", "Ljava/lang/String;", false)
  | _ => ("AdMarketplace$Tag", "floor", "I", false)
def xY9 : Nat → FieldType := fun k => match k with
  | 0 => .object "java/lang/String"
  | _ => .int
theorem xN9 : ∀ a, a < 2 → ∀ b, b < 2 → a ≠ b → (xT9 a).2.1 ≠ (xT9 b).2.1 := by decide +kernel
theorem xP9 : ∀ k, k < 2 → parseFieldDescriptor (xT9 k).2.2.1 = some (xY9 k) := by decide +kernel
theorem xI9 : ∀ w ∈ u_ws "AdMarketplace$Tag" xT9 2, w ∈ xgd := by
  have hp : u_ws "AdMarketplace$Tag" xT9 2 = [97, 99].filterMap (fun i => tables_1[i]?) := by decide +kernel
  have hg : (u_ws "AdMarketplace$Tag" xT9 2).all goodWord = true := by decide +kernel
  intro w hw
  have h1 := List.all_eq_true.mp hg w hw
  rw [hp] at hw
  obtain ⟨i, -, hi⟩ := List.mem_filterMap.mp hw
  exact xg_of hi h1
def xT10 : u_T := fun k => match k with
  | 0 => ("AdMarketplace$Tokens", "text", "[C", true)
  | 1 => ("AdMarketplace$Tokens", "held", "I", false)
  | 2 => ("AdMarketplace$Tokens", "length", "I", false)
  | 3 => ("AdMarketplace$Tokens", "end", "I", false)
  | 4 => ("AdMarketplace$Tokens", "sort", "I", false)
  | 5 => ("AdMarketplace$Tokens", "start", "I", false)
  | _ => ("AdMarketplace$Tokens", "number", "I", false)
def xY10 : Nat → FieldType := fun k => match k with
  | 0 => .array .char
  | 1 => .int
  | 2 => .int
  | 3 => .int
  | 4 => .int
  | 5 => .int
  | _ => .int
theorem xN10 : ∀ a, a < 7 → ∀ b, b < 7 → a ≠ b → (xT10 a).2.1 ≠ (xT10 b).2.1 := by decide +kernel
theorem xP10 : ∀ k, k < 7 → parseFieldDescriptor (xT10 k).2.2.1 = some (xY10 k) := by decide +kernel
theorem xI10 : ∀ w ∈ u_ws "AdMarketplace$Tokens" xT10 7, w ∈ xgd := by
  have hp : u_ws "AdMarketplace$Tokens" xT10 7 = [63, 65, 67, 69, 71, 73, 75].filterMap (fun i => tables_1[i]?) := by decide +kernel
  have hg : (u_ws "AdMarketplace$Tokens" xT10 7).all goodWord = true := by decide +kernel
  intro w hw
  have h1 := List.all_eq_true.mp hg w hw
  rw [hp] at hw
  obtain ⟨i, -, hi⟩ := List.mem_filterMap.mp hw
  exact xg_of hi h1
def xT11 : u_T := fun k => match k with
  | 0 => ("AdMarketplaceModel", "s", "[I", true)
  | 1 => ("AdMarketplaceModel", "aside", "[I", true)
  | 2 => ("AdMarketplaceModel", "history", "[I", true)
  | 3 => ("AdMarketplaceModel", "edits", "I", false)
  | 4 => ("AdMarketplaceModel", "thrown", "I", false)
  | 5 => ("AdMarketplaceModel", "buffer", "[I", true)
  | 6 => ("AdMarketplaceModel", "buffered", "I", false)
  | 7 => ("AdMarketplaceModel", "errorKind", "I", false)
  | 8 => ("AdMarketplaceModel", "errorPosition", "I", false)
  | 9 => ("AdMarketplaceModel", "length", "I", false)
  | 10 => ("AdMarketplaceModel", "start", "I", false)
  | 11 => ("AdMarketplaceModel", "next", "I", false)
  | 12 => ("AdMarketplaceModel", "token", "I", false)
  | 13 => ("AdMarketplaceModel", "value", "I", false)
  | 14 => ("AdMarketplaceModel", "kind", "I", false)
  | 15 => ("AdMarketplaceModel", "position", "I", false)
  | 16 => ("AdMarketplaceModel", "word", "J", false)
  | 17 => ("AdMarketplaceModel", "numberRead", "I", false)
  | 18 => ("AdMarketplaceModel", "read", "[I", true)
  | 19 => ("AdMarketplaceModel", "terms", "[I", true)
  | 20 => ("AdMarketplaceModel", "tagsRead", "[J", true)
  | 21 => ("AdMarketplaceModel", "campaignsRead", "[J", true)
  | 22 => ("AdMarketplaceModel", "campaignNames", "[J", true)
  | 23 => ("AdMarketplaceModel", "campaignRead", "I", false)
  | 24 => ("AdMarketplaceModel", "rank", "[I", true)
  | 25 => ("AdMarketplaceModel", "winners", "[I", true)
  | 26 => ("AdMarketplaceModel", "prices", "[I", true)
  | 27 => ("AdMarketplaceModel", "ranked", "I", false)
  | 28 => ("AdMarketplaceModel", "filled", "I", false)
  | 29 => ("AdMarketplaceModel", "output", "[I", true)
  | _ => ("AdMarketplaceModel", "outputLength", "I", false)
def xY11 : Nat → FieldType := fun k => match k with
  | 0 => .array .int
  | 1 => .array .int
  | 2 => .array .int
  | 3 => .int
  | 4 => .int
  | 5 => .array .int
  | 6 => .int
  | 7 => .int
  | 8 => .int
  | 9 => .int
  | 10 => .int
  | 11 => .int
  | 12 => .int
  | 13 => .int
  | 14 => .int
  | 15 => .int
  | 16 => .long
  | 17 => .int
  | 18 => .array .int
  | 19 => .array .int
  | 20 => .array .long
  | 21 => .array .long
  | 22 => .array .long
  | 23 => .int
  | 24 => .array .int
  | 25 => .array .int
  | 26 => .array .int
  | 27 => .int
  | 28 => .int
  | 29 => .array .int
  | _ => .int
theorem xN11 : ∀ a, a < 31 → ∀ b, b < 31 → a ≠ b → (xT11 a).2.1 ≠ (xT11 b).2.1 := by decide +kernel
theorem xP11 : ∀ k, k < 31 → parseFieldDescriptor (xT11 k).2.2.1 = some (xY11 k) := by decide +kernel
theorem xI11 : ∀ w ∈ u_ws "AdMarketplaceModel" xT11 31, w ∈ xgd := by
  have hp : u_ws "AdMarketplaceModel" xT11 31 = [1586, 1588, 1590, 1592, 1594, 1596, 1598, 1600, 1602, 1604, 1606, 1608, 1610, 1612, 1614, 1616, 1618, 1620, 1622, 1624, 1626, 1628, 1630, 1632, 1634, 1636, 1638, 1640, 1642, 1644, 1646].filterMap (fun i => tables_1[i]?) := by decide +kernel
  have hg : (u_ws "AdMarketplaceModel" xT11 31).all goodWord = true := by decide +kernel
  intro w hw
  have h1 := List.all_eq_true.mp hg w hw
  rw [hp] at hw
  obtain ⟨i, -, hi⟩ := List.mem_filterMap.mp hw
  exact xg_of hi h1
def xT12 : u_T := fun k => match k with
  | 0 => ("java/lang/String", "value", "[B", true)
  | _ => ("java/lang/String", "coder", "B", true)
def xY12 : Nat → FieldType := fun k => match k with
  | 0 => .array .byte
  | _ => .byte
theorem xN12 : ∀ a, a < 2 → ∀ b, b < 2 → a ≠ b → (xT12 a).2.1 ≠ (xT12 b).2.1 := by decide +kernel
theorem xP12 : ∀ k, k < 2 → parseFieldDescriptor (xT12 k).2.2.1 = some (xY12 k) := by decide +kernel
theorem xI12 : ∀ w ∈ u_ws "java/lang/String" xT12 2, w ∈ xgd := by
  have hp : u_ws "java/lang/String" xT12 2 = [799, 801].filterMap (fun i => tables_1[i]?) := by decide +kernel
  have hg : (u_ws "java/lang/String" xT12 2).all goodWord = true := by decide +kernel
  intro w hw
  have h1 := List.all_eq_true.mp hg w hw
  rw [hp] at hw
  obtain ⟨i, -, hi⟩ := List.mem_filterMap.mp hw
  exact xg_of hi h1
def xT13 : u_T := fun k => match k with
  | 0 => ("java/lang/AbstractStringBuilder", "value", "[B", false)
  | 1 => ("java/lang/AbstractStringBuilder", "coder", "B", false)
  | 2 => ("java/lang/AbstractStringBuilder", "maybeLatin1", "Z", false)
  | _ => ("java/lang/AbstractStringBuilder", "count", "I", false)
def xY13 : Nat → FieldType := fun k => match k with
  | 0 => .array .byte
  | 1 => .byte
  | 2 => .boolean
  | _ => .int
theorem xN13 : ∀ a, a < 4 → ∀ b, b < 4 → a ≠ b → (xT13 a).2.1 ≠ (xT13 b).2.1 := by decide +kernel
theorem xP13 : ∀ k, k < 4 → parseFieldDescriptor (xT13 k).2.2.1 = some (xY13 k) := by decide +kernel
theorem xI13 : ∀ w ∈ u_ws "java/lang/StringBuilder" xT13 4, w ∈ xgd := by
  have hp : u_ws "java/lang/StringBuilder" xT13 4 = [442, 444, 446, 448].filterMap (fun i => tables_1[i]?) := by decide +kernel
  have hg : (u_ws "java/lang/StringBuilder" xT13 4).all goodWord = true := by decide +kernel
  intro w hw
  have h1 := List.all_eq_true.mp hg w hw
  rw [hp] at hw
  obtain ⟨i, -, hi⟩ := List.mem_filterMap.mp hw
  exact xg_of hi h1
def xTe : u_T := fun _ => ("", "", "", false)
abbrev xcl : List vw_C := [("AdMarketplace", xT0, 6), ("AdMarketplace$Campaign", xT1, 8), ("AdMarketplace$Conversions", xT2, 5), ("AdMarketplace$Exchange", xT3, 10), ("AdMarketplace$History", xT4, 3), ("AdMarketplace$Impressions", xT5, 5), ("AdMarketplace$Parser", xT6, 6), ("AdMarketplace$Rules", xT7, 9), ("AdMarketplace$Standing", xT8, 11), ("AdMarketplace$Tag", xT9, 2), ("AdMarketplace$Tokens", xT10, 7), ("AdMarketplaceModel", xT11, 31), ("java/lang/String", xT12, 2), ("java/lang/StringBuilder", xT13, 4), ("java/lang/IndexOutOfBoundsException", xTe, 0), ("java/lang/IllegalArgumentException", xTe, 0), ("java/lang/IllegalStateException", xTe, 0)]
abbrev xft : List (Nat → FieldType) := [xY0, xY1, xY2, xY3, xY4, xY5, xY6, xY7, xY8, xY9, xY10, xY11, xY12, xY13]
abbrev xsl : List Nat := [6, 8, 5, 10, 3, 5, 6, 9, 11, 2, 7, 31, 4, 4, 6, 6, 6]
/-- what holds of a class of the table -/
def xm_cok (t : Nat) (q : vw_C) (ty : Nat → FieldType) : Prop := (∀ w ∈ u_ws q.1 q.2.1 q.2.2, w ∈ xgd) ∧ (∀ a, a < q.2.2 → ∀ b, b < q.2.2 → a ≠ b → (q.2.1 a).2.1 ≠ (q.2.1 b).2.1) ∧ (∀ k, k < q.2.2 → parseFieldDescriptor (q.2.1 k).2.2.1 = some (ty k)) ∧ Cond.instantiable q.1 (xsl.getD t 0) ∈ xgd ∧ Cond.initialized q.1 ∈ xgd ∧ ∀ k, k < q.2.2 → ty k ≠ .float
set_option maxRecDepth 100000 in
theorem xO0 : xm_cok 0 ("AdMarketplace", xT0, 6) xY0 := ⟨xI0, xN0, xP0, xg_of (i := 33) rfl rfl, xg_of (i := 1) rfl rfl, by decide⟩
set_option maxRecDepth 100000 in
theorem xO1 : xm_cok 1 ("AdMarketplace$Campaign", xT1, 8) xY1 := ⟨xI1, xN1, xP1, xg_of (i := 106) rfl rfl, xg_of (i := 6) rfl rfl, by decide⟩
set_option maxRecDepth 100000 in
theorem xO2 : xm_cok 2 ("AdMarketplace$Conversions", xT2, 5) xY2 := ⟨xI2, xN2, xP2, xg_of (i := 375) rfl rfl, xg_of (i := 10) rfl rfl, by decide⟩
set_option maxRecDepth 100000 in
theorem xO3 : xm_cok 3 ("AdMarketplace$Exchange", xT3, 10) xY3 := ⟨xI3, xN3, xP3, xg_of (i := 224) rfl rfl, xg_of (i := 7) rfl rfl, by decide⟩
set_option maxRecDepth 100000 in
theorem xO4 : xm_cok 4 ("AdMarketplace$History", xT4, 3) xY4 := ⟨xI4, xN4, xP4, xg_of (i := 400) rfl rfl, xg_of (i := 11) rfl rfl, by decide⟩
set_option maxRecDepth 100000 in
theorem xO5 : xm_cok 5 ("AdMarketplace$Impressions", xT5, 5) xY5 := ⟨xI5, xN5, xP5, xg_of (i := 301) rfl rfl, xg_of (i := 9) rfl rfl, by decide⟩
set_option maxRecDepth 100000 in
theorem xO6 : xm_cok 6 ("AdMarketplace$Parser", xT6, 6) xY6 := ⟨xI6, xN6, xP6, xg_of (i := 41) rfl rfl, xg_of (i := 2) rfl rfl, by decide⟩
set_option maxRecDepth 100000 in
theorem xO7 : xm_cok 7 ("AdMarketplace$Rules", xT7, 9) xY7 := ⟨xI7, xN7, xP7, xg_of (i := 80) rfl rfl, xg_of (i := 4) rfl rfl, by decide⟩
set_option maxRecDepth 100000 in
theorem xO8 : xm_cok 8 ("AdMarketplace$Standing", xT8, 11) xY8 := ⟨xI8, xN8, xP8, xg_of (i := 232) rfl rfl, xg_of (i := 8) rfl rfl, by decide⟩
set_option maxRecDepth 100000 in
theorem xO9 : xm_cok 9 ("AdMarketplace$Tag", xT9, 2) xY9 := ⟨xI9, xN9, xP9, xg_of (i := 87) rfl rfl, xg_of (i := 5) rfl rfl, by decide⟩
set_option maxRecDepth 100000 in
theorem xO10 : xm_cok 10 ("AdMarketplace$Tokens", xT10, 7) xY10 := ⟨xI10, xN10, xP10, xg_of (i := 47) rfl rfl, xg_of (i := 3) rfl rfl, by decide⟩
set_option maxRecDepth 100000 in
theorem xO11 : xm_cok 11 ("AdMarketplaceModel", xT11, 31) xY11 := ⟨xI11, xN11, xP11, xg_of (i := 1538) rfl rfl, xg_of (i := 16) rfl rfl, by decide⟩
set_option maxRecDepth 100000 in
theorem xO12 : xm_cok 12 ("java/lang/String", xT12, 2) xY12 := ⟨xI12, xN12, xP12, xg_of (i := 759) rfl rfl, xg_of (i := 14) rfl rfl, by decide⟩
set_option maxRecDepth 100000 in
theorem xO13 : xm_cok 13 ("java/lang/StringBuilder", xT13, 4) xY13 := ⟨xI13, xN13, xP13, xg_of (i := 420) rfl rfl, xg_of (i := 13) rfl rfl, by decide⟩
theorem xO (t : Nat) (q : vw_C) (hq : xcl[t]? = some q) (ht : t < 14) : ∃ ty, xft[t]? = some ty ∧ xm_cok t q ty := by
  match t, hq, ht with
  | 0, hq, _ => cases hq; exact ⟨_, rfl, xO0⟩
  | 1, hq, _ => cases hq; exact ⟨_, rfl, xO1⟩
  | 2, hq, _ => cases hq; exact ⟨_, rfl, xO2⟩
  | 3, hq, _ => cases hq; exact ⟨_, rfl, xO3⟩
  | 4, hq, _ => cases hq; exact ⟨_, rfl, xO4⟩
  | 5, hq, _ => cases hq; exact ⟨_, rfl, xO5⟩
  | 6, hq, _ => cases hq; exact ⟨_, rfl, xO6⟩
  | 7, hq, _ => cases hq; exact ⟨_, rfl, xO7⟩
  | 8, hq, _ => cases hq; exact ⟨_, rfl, xO8⟩
  | 9, hq, _ => cases hq; exact ⟨_, rfl, xO9⟩
  | 10, hq, _ => cases hq; exact ⟨_, rfl, xO10⟩
  | 11, hq, _ => cases hq; exact ⟨_, rfl, xO11⟩
  | 12, hq, _ => cases hq; exact ⟨_, rfl, xO12⟩
  | 13, hq, _ => cases hq; exact ⟨_, rfl, xO13⟩
  | n + 14, _, ht => exact absurd ht (by omega)
/-- element types of rows, by sort -/
abbrev xat : List FieldType := [.int, .boolean, .byte, .char, .long, .double, .object "AdMarketplace$Campaign", .object "AdMarketplace$Tag", .object "AdMarketplace$Standing"]
