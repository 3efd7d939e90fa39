/-! how the little machine's memory lies in the real heap -/
/-- the constants: their addresses, and a memory that says what they hold -/
abbrev xm_K : Type := (Nat → Nat) × xm_H
def xm_ad (bs : Nat) (ct : xm_K) (i : Nat) : Nat := if i < xK then ct.1 i else bs + (i - xK)
def xm_cv (ad : Nat → Nat) (v : Value) : Value := match v with
  | .ref i => .ref (ad i)
  | .int x => .int x
  | .long x => .long x
  | .double x => .double x
  | .float x => .float x
  | .null => .null
  | .retAddr x => .retAddr x
theorem xm_cv_cat (ad : Nat → Nat) (v : Value) : (xm_cv ad v).category = v.category := by cases v <;> rfl
/-- the sort of a type -/
def xm_tc (ty : FieldType) : Nat := match ty with
  | .int => 0
  | .boolean => 1
  | .byte => 2
  | .char => 3
  | .long => 4
  | .double => 5
  | .object _ => 6
  | .array _ => 6
  | _ => 7
def xm_fN (t : Nat) : Nat := match xcl[t]? with
  | some q => q.2.2
  | none => 0
def xm_fty (t k : Nat) : FieldType := match xft[t]? with
  | some f => f k
  | none => .int
def xm_et (t : Nat) : Nat := if t < 106 then t - 100 else 6
/-- what a cell of the heap holds -/
def xm_Cc (D : va_G) (aC : Nat → ClassId) (ad : Nat → Nat) (h : xm_H) (i : Nat) (cell : Cell) : Prop :=
  ((xm_k h i).1 < 100 → cell.cls = D.1 (xm_k h i).1 ∧ cell.vm = .none ∧ ∀ k, k < xm_fN (xm_k h i).1 → cell.slots[D.2 (xm_k h i).1 k]? = some (xm_cv ad (xm_get (xm_tc (xm_fty (xm_k h i).1 k)) h i k))) ∧
  (100 ≤ (xm_k h i).1 → cell = arrV (aC ((xm_k h i).1 - 100)) (xm_k h i).2 (fun j => xm_cv ad (xm_get (xm_et (xm_k h i).1) h i j)))
def xm_R (D : va_G) (aC : Nat → ClassId) (ct : xm_K) (H0 : Heap) (h : xm_H) (H : Heap) : Prop :=
  H.size + xK = H0.size + xm_n h ∧ xK ≤ xm_n h ∧ (∀ q, q < H0.size → H[q]? = H0[q]?) ∧ (∀ i, i < xK → xm_k h i = xm_k ct.2 i ∧ ∀ τ j, xm_get τ h i j = xm_get τ ct.2 i j) ∧ (∀ i, xm_n h ≤ i → (xm_k h i).1 = 999) ∧
  ∀ i, xK ≤ i → (xm_k h i).1 < 200 → ∃ cell, H[xm_ad H0.size ct i]? = some cell ∧ xm_Cc D aC (xm_ad H0.size ct) h i cell
theorem xm_get_si {h : xm_H} {a k : Nat} {v : Int32} {τ j m : Nat} (hj : j ≠ a) : xm_get τ (xm_si h a k v) j m = xm_get τ h j m := by
  unfold xm_get
  split <;> simp [xm_si, xm_l, xm_d, xm_r, xm_i, xm_u2, hj]
theorem xm_get_sl {h : xm_H} {a k : Nat} {v : Int64} {τ j m : Nat} (hj : j ≠ a) : xm_get τ (xm_sl h a k v) j m = xm_get τ h j m := by
  unfold xm_get
  split <;> simp [xm_sl, xm_l, xm_d, xm_r, xm_i, xm_u2, hj]
theorem xm_get_sd {h : xm_H} {a k : Nat} {v : UInt64} {τ j m : Nat} (hj : j ≠ a) : xm_get τ (xm_sd h a k v) j m = xm_get τ h j m := by
  unfold xm_get
  split <;> simp [xm_sd, xm_l, xm_d, xm_r, xm_i, xm_u2, hj]
theorem xm_get_sr {h : xm_H} {a k : Nat} {v : Option Nat} {τ j m : Nat} (hj : j ≠ a) : xm_get τ (xm_sr h a k v) j m = xm_get τ h j m := by
  unfold xm_get
  split <;> simp [xm_sr, xm_l, xm_d, xm_r, xm_i, xm_u2, hj]
theorem xm_get_new {h : xm_H} {κ : Nat × Nat} {τ j m : Nat} (hj : j ≠ xm_n h) : xm_get τ (xm_new h κ) j m = xm_get τ h j m := by
  have hj' : ¬ j = h.1 := hj
  unfold xm_get
  split <;> simp [xm_new, xm_l, xm_d, xm_r, xm_i, xm_z, hj']
theorem xm_get_cp {h : xm_H} {a p b q n : Nat} {τ j m : Nat} (hj : j ≠ b) : xm_get τ (xm_cp h a p b q n) j m = xm_get τ h j m := by
  unfold xm_get
  split <;> simp [xm_cp, xm_l, xm_d, xm_r, xm_i, hj]
section Rel
variable {D : va_G} {aC : Nat → ClassId} {ct : xm_K} {H0 : Heap} {h h' : xm_H} {H H1 : Heap}
theorem xm_R.in (hR : xm_R D aC ct H0 h H) {a : Nat} (ha : (xm_k h a).1 < 200) : a < xm_n h := by
  rcases Nat.lt_or_ge a (xm_n h) with q | q
  · exact q
  · have := hR.2.2.2.2.1 a q
    omega
theorem xm_R.cell (hR : xm_R D aC ct H0 h H) {a : Nat} (hK : xK ≤ a) (ha : (xm_k h a).1 < 200) : ∃ cell, H[xm_ad H0.size ct a]? = some cell ∧ xm_Cc D aC (xm_ad H0.size ct) h a cell := hR.2.2.2.2.2 a hK ha
/-- the addresses of two cells, no constants, are apart -/
theorem xm_apart {z : Nat} {ct : xm_K} {i a : Nat} (hi : xK ≤ i) (ha : xK ≤ a) (hne : i ≠ a) : xm_ad z ct i ≠ xm_ad z ct a := by
  unfold xm_ad
  rw [if_neg (Nat.not_lt.mpr ha), if_neg (Nat.not_lt.mpr hi)]
  omega
/-- one cell is written -/
theorem xm_R.upd (hR : xm_R D aC ct H0 h H) {a : Nat} (ha : xK ≤ a) (hka : (xm_k h a).1 < 200) (hn : xm_n h' = xm_n h) (hk : ∀ i, xm_k h' i = xm_k h i) (hg : ∀ τ j m, j ≠ a → xm_get τ h' j m = xm_get τ h j m)
    (hz : H1.size = H.size) (ho : ∀ q, q ≠ xm_ad H0.size ct a → H1[q]? = H[q]?) {cell : Cell} (hc : H1[xm_ad H0.size ct a]? = some cell) (hC : xm_Cc D aC (xm_ad H0.size ct) h' a cell) : xm_R D aC ct H0 h' H1 := by
  obtain ⟨r1, r2, r3, r4, r5, r6⟩ := id hR
  refine ⟨by rw [hz, hn]; exact r1, by rw [hn]; exact r2, fun q hq => ?_, fun i hi => ⟨by rw [hk]; exact (r4 i hi).1, fun τ j => by rw [hg τ i j (by omega)]; exact (r4 i hi).2 τ j⟩, fun i hi => by rw [hk]; exact r5 i (by rw [← hn]; exact hi), fun i hiK hi => ?_⟩
  · rw [ho q ?_]
    · exact r3 q hq
    · unfold xm_ad
      rw [if_neg (Nat.not_lt.mpr ha)]
      omega
  · by_cases hia : i = a
    · subst hia
      exact ⟨cell, hc, hC⟩
    · rw [hk] at hi
      obtain ⟨c2, g1, g2⟩ := r6 i hiK hi
      refine ⟨c2, by rw [ho _ (xm_apart hiK ha hia)]; exact g1, ?_⟩
      unfold xm_Cc at g2 ⊢
      simp only [hk, hg _ i _ hia]
      exact g2
/-- a cell is made -/
theorem xm_R.push (hR : xm_R D aC ct H0 h H) {κ : Nat × Nat} (hz : H1.size = H.size + 1) (ho : ∀ q, q < H.size → H1[q]? = H[q]?) {cell : Cell} (hc : H1[H.size]? = some cell) (hC : xm_Cc D aC (xm_ad H0.size ct) (xm_new h κ) (xm_n h) cell) : xm_R D aC ct H0 (xm_new h κ) H1 := by
  obtain ⟨r1, r2, r3, r4, r5, r6⟩ := id hR
  have hsz : H0.size ≤ H.size := by omega
  have hkn : ∀ i, i ≠ xm_n h → xm_k (xm_new h κ) i = xm_k h i := fun i hi => by
    have hi' : ¬ i = h.1 := hi
    simp [xm_k, xm_new, hi']
  have hnn : xm_n (xm_new h κ) = xm_n h + 1 := rfl
  refine ⟨by rw [hz, hnn]; omega, by rw [hnn]; omega, fun q hq => by rw [ho q (by omega)]; exact r3 q hq, fun i hi => ⟨by rw [hkn i (by omega)]; exact (r4 i hi).1, fun τ j => by rw [xm_get_new (by omega)]; exact (r4 i hi).2 τ j⟩, fun i hi => ?_, fun i hiK hi => ?_⟩
  · rw [hnn] at hi
    rw [hkn i (by omega)]
    exact r5 i (by omega)
  · by_cases hia : i = xm_n h
    · subst hia
      have : xm_ad H0.size ct (xm_n h) = H.size := by
        unfold xm_ad
        rw [if_neg (Nat.not_lt.mpr r2)]
        omega
      exact ⟨cell, by rw [this]; exact hc, hC⟩
    · rw [hkn i hia] at hi
      obtain ⟨c2, g1, g2⟩ := r6 i hiK hi
      refine ⟨c2, by rw [ho _ (Array.getElem?_eq_some_iff.mp g1).1]; exact g1, ?_⟩
      unfold xm_Cc at g2 ⊢
      simp only [hkn i hia, xm_get_new hia]
      exact g2
theorem xm_R.next (hR : xm_R D aC ct H0 h H) : xm_ad H0.size ct (xm_n h) = H.size := by
  obtain ⟨r1, r2, -⟩ := hR
  unfold xm_ad
  rw [if_neg (Nat.not_lt.mpr r2)]
  omega
theorem xm_R.sz (hR : xm_R D aC ct H0 h H) : H0.size ≤ H.size := by
  obtain ⟨r1, r2, -⟩ := hR
  omega
end Rel
/-! the locals -/
def xm_lh (ad : Nat → Nat) (lr : Array Slot) (ls : xm_L) : Prop := lr.size = ls.length ∧ lv_wf lr ∧ ∀ (i : Nat) (v : Value), ls[i]? = some (some v) → lr[i]? = some (Slot.val (xm_cv ad v))
def xm_lv (ad : Nat → Nat) (ls : xm_L) : List (Nat × Value) := (List.range ls.length).filterMap (fun i => (xm_ld ls i).map (fun v => (i, xm_cv ad v)))
theorem xm_ld_some {ls : xm_L} {i : Nat} {v : Value} (h : xm_ld ls i = some v) : ls[i]? = some (some v) := by
  unfold xm_ld at h
  split at h
  · rename_i x hx
    rw [hx, h]
  · cases h
theorem xm_ld_of {ls : xm_L} {i : Nat} {v : Value} (h : ls[i]? = some (some v)) : xm_ld ls i = some v := by
  unfold xm_ld
  rw [h]
theorem xm_lv_mem {ad : Nat → Nat} {ls : xm_L} {i : Nat} {v : Value} (h : ls[i]? = some (some v)) : (i, xm_cv ad v) ∈ xm_lv ad ls := by
  refine List.mem_filterMap.mpr ⟨i, List.mem_range.mpr (List.getElem?_eq_some_iff.mp h).1, ?_⟩
  rw [xm_ld_of h]
  rfl
theorem xm_lh.has {ad : Nat → Nat} {lr : Array Slot} {ls : xm_L} (h : xm_lh ad lr ls) : lv_has lr ls.length (xm_lv ad ls) := by
  refine ⟨h.1, h.2.1, fun q hq => ?_⟩
  obtain ⟨i, -, hi⟩ := List.mem_filterMap.mp hq
  obtain ⟨v, hv, rfl⟩ := Option.map_eq_some_iff.mp hi
  exact h.2.2 i v (xm_ld_some hv)
theorem xm_lh.mask {ad : Nat → Nat} {lr : Array Slot} {ls : xm_L} (h : xm_lh ad lr ls) (m : List Bool) (hm : m.length = ls.length) : xm_lh ad lr (xm_mk (some m) ls) := by
  refine ⟨by simp [xm_mk, h.1, hm], h.2.1, fun i v hv => ?_⟩
  simp only [xm_mk, List.getElem?_zipWith] at hv
  split at hv
  · rename_i b o hb ho
    by_cases hbt : b = true
    · simp only [hbt, if_true] at hv
      have hv2 : o = some v := Option.some.inj hv
      exact h.2.2 i v (by rw [ho, hv2])
    · simp only [hbt, if_false] at hv
      simp at hv
  · cases hv
theorem xm_kill_len (ls : xm_L) (i : Nat) : (xm_kill ls i).length = ls.length := by
  unfold xm_kill
  split
  · rfl
  · split <;> simp
theorem xm_kill_get {ls : xm_L} {i j : Nat} {v : Value} (h : (xm_kill ls i)[j]? = some (some v)) : ls[j]? = some (some v) ∧ ¬ (j + 1 = i ∧ v.category = 2) := by
  unfold xm_kill at h
  split at h
  · exact ⟨h, fun q => by omega⟩
  · rename_i k
    have key : ∀ x : Value, ls[k]? = some (some x) → (ls.set k none)[j]? = some (some v) → ls[j]? = some (some v) ∧ ¬ (j + 1 = k + 1 ∧ v.category = 2) := fun x hx h9 => by
      by_cases hjk : k = j
      · subst hjk
        rw [List.getElem?_set_self (List.getElem?_eq_some_iff.mp hx).1] at h9
        simp at h9
      · rw [List.getElem?_set_ne hjk] at h9
        exact ⟨h9, fun q => hjk (by omega)⟩
    split at h
    · rename_i x hx
      exact key _ hx h
    · rename_i x hx
      exact key _ hx h
    · rename_i hnl hnd
      refine ⟨h, fun q => ?_⟩
      obtain ⟨q1, q2⟩ := q
      have hjk : j = k := by omega
      subst hjk
      cases v with
      | long x => exact hnl x h
      | double x => exact hnd x h
      | int x => simp [Value.category] at q2
      | float x => simp [Value.category] at q2
      | null => simp [Value.category] at q2
      | ref x => simp [Value.category] at q2
      | retAddr x => simp [Value.category] at q2
theorem xm_lh.store {ad : Nat → Nat} {lr : Array Slot} {ls : xm_L} {i : Nat} {v : Value} (hi : i < ls.length)
    (h : lv_has lr ls.length ((i, xm_cv ad v) :: (xm_lv ad ls).filter (fun q => !(q.1 == i) && !(q.1 + 1 == i && q.2.category == 2)))) : xm_lh ad lr (xm_st ls i v) := by
  refine ⟨by simp [xm_st, xm_kill_len, h.1], h.2.1, fun j w hw => ?_⟩
  unfold xm_st at hw
  by_cases hji : i = j
  · subst hji
    rw [List.getElem?_set_self (by rw [xm_kill_len]; exact hi)] at hw
    cases hw
    exact h.2.2 _ List.mem_cons_self
  · rw [List.getElem?_set_ne hji] at hw
    obtain ⟨g1, g2⟩ := xm_kill_get hw
    refine h.2.2 (j, xm_cv ad w) (List.mem_cons_of_mem _ (List.mem_filter.mpr ⟨xm_lv_mem g1, ?_⟩))
    simp only [xm_cv_cat]
    simp
    exact ⟨fun q => hji q.symm, Decidable.not_and_iff_or_not.mp g2⟩
theorem xm_lh.store2 {ad : Nat → Nat} {lr : Array Slot} {ls : xm_L} {i : Nat} {v : Value} (hi : i + 1 < ls.length)
    (h : lv_has lr ls.length ((i, xm_cv ad v) :: (xm_lv ad ls).filter (fun q => !(q.1 == i) && (!(q.1 == i + 1) && !(q.1 + 1 == i && q.2.category == 2))))) : xm_lh ad lr (xm_st2 ls i v) := by
  refine ⟨by simp [xm_st2, xm_kill_len, h.1], h.2.1, fun j w hw => ?_⟩
  unfold xm_st2 at hw
  by_cases hj1 : i + 1 = j
  · subst hj1
    rw [List.getElem?_set_self (by simp [xm_kill_len]; omega)] at hw
    simp at hw
  · rw [List.getElem?_set_ne hj1] at hw
    by_cases hji : i = j
    · subst hji
      rw [List.getElem?_set_self (by rw [xm_kill_len]; omega)] at hw
      cases hw
      exact h.2.2 _ List.mem_cons_self
    · rw [List.getElem?_set_ne hji] at hw
      obtain ⟨g1, g2⟩ := xm_kill_get hw
      refine h.2.2 (j, xm_cv ad w) (List.mem_cons_of_mem _ (List.mem_filter.mpr ⟨xm_lv_mem g1, ?_⟩))
      simp only [xm_cv_cat]
      simp
      exact ⟨fun q => hji q.symm, fun q => hj1 q.symm, Decidable.not_and_iff_or_not.mp g2⟩
/-! room: cells are counted by their number, slots by the kinds -/
def xm_ks (κ : Nat × Nat) : Nat := if κ.1 < 100 then xsl.getD κ.1 0 else κ.2
def xm_sz (h : xm_H) : Nat := ((List.range (xm_n h)).map (fun i => xm_ks (xm_k h i))).sum
theorem xm_sz_new (h : xm_H) (κ : Nat × Nat) : xm_sz (xm_new h κ) = xm_sz h + xm_ks κ := by
  have hn : xm_n (xm_new h κ) = xm_n h + 1 := rfl
  unfold xm_sz
  rw [hn, List.range_succ, List.map_append, List.sum_append]
  congr 1
  · congr 1
    refine List.map_congr_left fun i hi => ?_
    have h1 : ¬ i = h.1 := Nat.ne_of_lt (List.mem_range.mp hi)
    simp [xm_k, xm_new, h1]
  · simp [xm_k, xm_new, xm_n]
/-- what a step may do to the memory: cells are only added -/
def xm_mo (h h' : xm_H) : Prop := xm_n h ≤ xm_n h' ∧ xm_sz h ≤ xm_sz h'
theorem xm_mo.rf {h : xm_H} : xm_mo h h := ⟨Nat.le_refl _, Nat.le_refl _⟩
theorem xm_mo.tr {a b c : xm_H} (h1 : xm_mo a b) (h2 : xm_mo b c) : xm_mo a c := ⟨Nat.le_trans h1.1 h2.1, Nat.le_trans h1.2 h2.2⟩
theorem xm_mo.nw (h : xm_H) (κ : Nat × Nat) : xm_mo h (xm_new h κ) := ⟨Nat.le_succ _, by rw [xm_sz_new]; exact Nat.le_add_right _ _⟩
