/-! the start, run by computing -/
abbrev cSt : Type := List (Nat × Nat) × List (Nat × Nat × Nat) × List (Nat × Nat × Int32)
def cKd (s : cSt) (a : Nat) : Option (Nat × Nat) := if 160 ≤ a then s.1[a - 160]? else none
def cRf (s : cSt) (a k : Nat) : Option Nat := match s.2.1.find? (fun t => t.1 == a && t.2.1 == k) with
  | some t => some t.2.2
  | none => none
def cIn (s : cSt) (a k : Nat) : Int32 := match s.2.2.find? (fun t => t.1 == a && t.2.1 == k) with
  | some t => t.2.2
  | none => 0
def cNew (s : cSt) (κ : Nat × Nat) : cSt := (s.1 ++ [κ], s.2)
def cSr (s : cSt) (a k b : Nat) : cSt := (s.1, (a, k, b) :: s.2.1, s.2.2)
def cSi (s : cSt) (a k : Nat) (v : Int32) : cSt := if cIn s a k = v then s else (s.1, s.2.1, (a, k, v) :: s.2.2)
/-- the computed state tells of a heap -/
def cRel (b : xm_H) (s : cSt) (h : xm_H) : Prop := xm_n h = 160 + s.1.length ∧ (∀ a, a < 160 → xm_k h a = xm_k b a ∧ ∀ j, xm_i h a j = xm_i b a j ∧ xm_r h a j = xm_r b a j) ∧ (∀ i κ, s.1[i]? = some κ → xm_k h (160 + i) = κ) ∧ (∀ a k, 160 ≤ a → a < xm_n h → xm_r h a k = cRf s a k ∧ xm_i h a k = cIn s a k ∧ xm_l h a k = 0) ∧ (∀ t ∈ s.2.1, t.1 < 160 + s.1.length) ∧ ∀ t ∈ s.2.2, t.1 < 160 + s.1.length
section Cr
variable {b h : xm_H} {s : cSt} {a k c : Nat} {v : Int32} {κ : Nat × Nat}
theorem cRel.kd (R : cRel b s h) (e : cKd s a = some κ) : xm_k h a = κ ∧ 160 ≤ a ∧ a < xm_n h := by
  unfold cKd at e
  split at e
  · rename_i h1
    have h2 := R.2.2.1 _ _ e
    rw [show 160 + (a - 160) = a by omega] at h2
    refine ⟨h2, h1, ?_⟩
    rw [R.1]
    have : a - 160 < s.1.length := by
      rcases Nat.lt_or_ge (a - 160) s.1.length with z | z
      · exact z
      · rw [List.getElem?_eq_none z] at e
        cases e
    omega
  · cases e
theorem cFind_none {α : Type} {l : List (Nat × Nat × α)} {n : Nat} (hl : ∀ t ∈ l, t.1 < n) : l.find? (fun t => t.1 == n && t.2.1 == k) = none := by
  rw [List.find?_eq_none]
  intro t ht
  have := hl t ht
  simp
  omega
theorem cRel.nw (R : cRel b s h) : cRel b (cNew s κ) (xm_new h κ) := by
  obtain ⟨r1, r2, r3, r4, r5, r6⟩ := R
  have hl : (cNew s κ).1.length = s.1.length + 1 := by
    unfold cNew
    rw [List.length_append]
    rfl
  refine ⟨?_, fun a ha => ?_, fun i κ' e => ?_, fun a k h1 h2 => ?_, fun t ht => ?_, fun t ht => ?_⟩
  · rw [hl]
    show xm_n h + 1 = _
    omega
  · have hne : a ≠ xm_n h := by omega
    obtain ⟨q1, q2⟩ := r2 a ha
    refine ⟨(if_neg hne).trans q1, fun j => ⟨?_, ?_⟩⟩
    · exact (if_neg hne).trans (q2 j).1
    · exact (if_neg hne).trans (q2 j).2
  · unfold cNew at e
    dsimp only at e
    by_cases hi : i < s.1.length
    · rw [List.getElem?_append_left hi] at e
      refine (if_neg ?_).trans (r3 i κ' e)
      show ¬ 160 + i = xm_n h
      omega
    · rw [List.getElem?_append_right (by omega)] at e
      have hi2 : i = s.1.length := by
        rcases Nat.lt_or_ge (i - s.1.length) 1 with z | z
        · omega
        · rw [List.getElem?_eq_none (by simpa using z)] at e
          cases e
      subst hi2
      rw [Nat.sub_self] at e
      have e2 : κ = κ' := by simpa using e
      rw [← e2]
      exact if_pos r1.symm
  · by_cases hn : a = xm_n h
    · refine ⟨(if_pos hn).trans ?_, (if_pos hn).trans ?_, if_pos hn⟩
      · show none = cRf (cNew s κ) a k
        unfold cRf
        rw [hn, r1, show (cNew s κ).2.1 = s.2.1 from rfl, cFind_none r5]
      · show (0 : Int32) = cIn (cNew s κ) a k
        unfold cIn
        rw [hn, r1, show (cNew s κ).2.2 = s.2.2 from rfl, cFind_none r6]
    · have h3 : a < xm_n h := by
        have : xm_n (xm_new h κ) = xm_n h + 1 := rfl
        omega
      obtain ⟨q1, q2, q3⟩ := r4 a k h1 h3
      exact ⟨(if_neg hn).trans q1, (if_neg hn).trans q2, (if_neg hn).trans q3⟩
  · have := r5 t ht
    rw [hl]
    omega
  · have := r6 t ht
    rw [hl]
    omega
theorem cRel.sr (R : cRel b s h) (h1 : 160 ≤ a) (h2 : a < xm_n h) : cRel b (cSr s a k c) (xm_sr h a k (some c)) := by
  obtain ⟨r1, r2, r3, r4, r5, r6⟩ := R
  refine ⟨r1, fun a' ha => ⟨(r2 a' ha).1, fun j => ⟨((r2 a' ha).2 j).1, ?_⟩⟩, r3, fun a' k' g1 g2 => ⟨?_, (r4 a' k' g1 g2).2⟩, fun t ht => ?_, r6⟩
  · exact (if_neg (fun z => by omega)).trans ((r2 a' ha).2 j).2
  · show (if a' = a ∧ k' = k then some c else xm_r h a' k') = _
    unfold cRf cSr
    rw [List.find?_cons]
    by_cases hz : a' = a ∧ k' = k
    · rw [if_pos hz, hz.1, hz.2]
      simp
    · rw [if_neg hz, (r4 a' k' g1 g2).1]
      have hb : (a == a' && k == k') = false := by
        simp
        intro e1 e2
        exact hz ⟨e1.symm, e2.symm⟩
      dsimp only
      rw [hb]
      rfl
  · rcases List.mem_cons.mp ht with rfl | ht
    · show a < 160 + s.1.length
      omega
    · exact r5 t ht
theorem cRel.si (R : cRel b s h) (h1 : 160 ≤ a) (h2 : a < xm_n h) : cRel b (cSi s a k v) (xm_si h a k v) := by
  obtain ⟨r1, r2, r3, r4, r5, r6⟩ := R
  have hq : (cSi s a k v).1 = s.1 ∧ (cSi s a k v).2.1 = s.2.1 := by
    unfold cSi
    split <;> exact ⟨rfl, rfl⟩
  refine ⟨by rw [hq.1]; exact r1, fun a' ha => ⟨(r2 a' ha).1, fun j => ⟨?_, ((r2 a' ha).2 j).2⟩⟩, by rw [hq.1]; exact r3, fun a' k' g1 g2 => ⟨?_, ?_, (r4 a' k' g1 g2).2.2⟩, by rw [hq.1, hq.2]; exact r5, fun t ht => ?_⟩
  · rw [xi_ne (by omega)]
    exact ((r2 a' ha).2 j).1
  · show xm_r h a' k' = _
    rw [(r4 a' k' g1 g2).1]
    unfold cRf
    rw [hq.2]
  · rw [xi_si]
    unfold cSi
    by_cases hc : cIn s a k = v
    · rw [if_pos hc]
      by_cases hz : a' = a ∧ k' = k
      · rw [if_pos hz, hz.1, hz.2]
        exact hc.symm
      · rw [if_neg hz]
        exact (r4 a' k' g1 g2).2.1
    · rw [if_neg hc]
      unfold cIn
      rw [List.find?_cons]
      by_cases hz : a' = a ∧ k' = k
      · rw [if_pos hz, hz.1, hz.2]
        simp
      · rw [if_neg hz, (r4 a' k' g1 g2).2.1]
        have hb : (a == a' && k == k') = false := by
          simp
          intro e1 e2
          exact hz ⟨e1.symm, e2.symm⟩
        dsimp only
        rw [hb]
        rfl
  · rw [hq.1]
    unfold cSi at ht
    split at ht
    · exact r6 t ht
    · rcases List.mem_cons.mp ht with rfl | ht
      · show a < 160 + s.1.length
        omega
      · exact r6 t ht
theorem cRel.sl (R : cRel b s h) : cRel b s (xm_sl h a k 0) := by
  obtain ⟨r1, r2, r3, r4, r5, r6⟩ := R
  refine ⟨r1, r2, r3, fun a' k' g1 g2 => ⟨(r4 a' k' g1 g2).1, (r4 a' k' g1 g2).2.1, ?_⟩, r5, r6⟩
  show (if a' = a ∧ k' = k then 0 else xm_l h a' k') = 0
  rw [(r4 a' k' g1 g2).2.2, ite_self]
end Cr
