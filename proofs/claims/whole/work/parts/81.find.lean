/-! load: names looked up, names made -/
/-- the names of a row of texts at the class (cells q, q + 1, ..) and of longs at the reference (cell r) -/
def zNs (n0 q r m : Nat) (W : Nat → List Nat) (hc hr : xm_H) : Prop := ∀ t, t < m → zLet (W t) ∧ (∃ a a2, xm_r hc (q + t) 0 = some a ∧ n0 ≤ a ∧ n0 ≤ a2 ∧ zStr hc a a2 (W t)) ∧ xm_l hr r t = lN (zPk (W t)) ∧ W t ≠ zKw 7
section Fd2
variable {N x p s e κ c i a a2 δ m q r j n0 : Nat} {b : Nat → Nat} {w : List Nat} {W : Nat → List Nat} {h g hc hr : xm_H}
theorem zi_d {P : Prop} [Decidable P] : (zi (decide P) = 0) ↔ ¬ P := by
  by_cases hp : P
  · rw [decide_eq_true hp]
    exact ⟨fun z => absurd z (by decide), fun z => absurd hp z⟩
  · rw [decide_eq_false hp]
    exact ⟨fun _ => hp, fun _ => rfl⟩
theorem zc_findTag (hN : 1000 ≤ N) (hf : zTf b x s e κ) (hT : zTc b x s e κ hc) (e5 : xm_i hc δ 5 = nI m) (hm : m ≤ 6) (hW : zNs n0 (δ + 3) r m W hc hr) (hR : zRun (fun t => ¬ (κ = 1 ∧ W t = zWd b s (e - s))) m 0 j) : f_X5_findTag N δ hc = some (if j = m then -1 else nI j, hc) := by
  obtain ⟨r1, r2, r3, r4⟩ := hR
  have sp : ∀ t, t < m → ∃ a, xm_r hc (δ + 3 + t) 0 = some a ∧ f_X9_spells N a hc = some (zi (decide (κ = 1 ∧ W t = zWd b s (e - s))), hc) := fun t ht => by
    obtain ⟨w1, ⟨a, a2, w2, w3, w4, w5⟩, w6⟩ := hW t ht
    have := w1.2.1
    exact ⟨a, w2, zc_spells hN hf hT w5 (fun y hy => by have := w1.2.2 y hy; omega) (by omega)⟩
  unfold f_X5_findTag
  refine zlp0 (N := N) (F := fun n t => f_X5_findTag_2 N δ n t.1 t.2) (I := fun i t => t = (nI i, hc)) (L := j) (s := (0, hc)) (by omega) rfl ?_ ?_
  · intro k i t hi ht
    subst ht
    refine ⟨(nI (i + 1), hc), rfl, ?_⟩
    show f_X5_findTag_2B N δ (f_X5_findTag_2 N δ k) (nI i) hc = f_X5_findTag_2 N δ k (nI (i + 1)) hc
    unfold f_X5_findTag_2B
    obtain ⟨a, p1, p2⟩ := sp i (by omega)
    rw [e5, if_pos (nI_lt (by omega) (by omega)), if_pos (zb_in (by omega) (by decide)), nI_clamp (by omega), p1, xbr_some, p2, xb_some, if_pos (zi_d.mpr (r3 i (by omega) hi)), nI_1]
  · intro k t ht
    subst ht
    show f_X5_findTag_2B N δ (f_X5_findTag_2 N δ k) (nI j) hc = _
    unfold f_X5_findTag_2B
    rw [e5]
    by_cases hj : j = m
    · rw [if_neg (nI_nlt (by omega) (by omega)), if_pos hj]
    · obtain ⟨a, p1, p2⟩ := sp j (by omega)
      rw [if_pos (nI_lt (by omega) (by omega)), if_pos (zb_in (by omega) (by decide)), nI_clamp (by omega), p1, xbr_some, p2, xb_some, if_neg (fun z => r4 (by omega) (zi_d.mp z)), if_neg hj]
theorem zc_findCampaign (hN : 1000 ≤ N) (hf : zTf b x s e κ) (hT : zTc b x s e κ hc) (e5 : xm_i hc δ 7 = nI m) (hm : m ≤ 8) (hW : zNs n0 (δ + 10) r m W hc hr) (hR : zRun (fun t => ¬ (κ = 1 ∧ W t = zWd b s (e - s))) m 0 j) : f_X5_findCampaign N δ hc = some (if j = m then -1 else nI j, hc) := by
  obtain ⟨r1, r2, r3, r4⟩ := hR
  have sp : ∀ t, t < m → ∃ a, xm_r hc (δ + 10 + t) 0 = some a ∧ f_X9_spells N a hc = some (zi (decide (κ = 1 ∧ W t = zWd b s (e - s))), hc) := fun t ht => by
    obtain ⟨w1, ⟨a, a2, w2, w3, w4, w5⟩, w6⟩ := hW t ht
    have := w1.2.1
    exact ⟨a, w2, zc_spells hN hf hT w5 (fun y hy => by have := w1.2.2 y hy; omega) (by omega)⟩
  unfold f_X5_findCampaign
  refine zlp0 (N := N) (F := fun n t => f_X5_findCampaign_2 N δ n t.1 t.2) (I := fun i t => t = (nI i, hc)) (L := j) (s := (0, hc)) (by omega) rfl ?_ ?_
  · intro k i t hi ht
    subst ht
    refine ⟨(nI (i + 1), hc), rfl, ?_⟩
    show f_X5_findCampaign_2B N δ (f_X5_findCampaign_2 N δ k) (nI i) hc = f_X5_findCampaign_2 N δ k (nI (i + 1)) hc
    unfold f_X5_findCampaign_2B
    obtain ⟨a, p1, p2⟩ := sp i (by omega)
    rw [e5, if_pos (nI_lt (by omega) (by omega)), if_pos (zb_in (by omega) (by decide)), nI_clamp (by omega), p1, xbr_some, p2, xb_some, if_pos (zi_d.mpr (r3 i (by omega) hi)), nI_1]
  · intro k t ht
    subst ht
    show f_X5_findCampaign_2B N δ (f_X5_findCampaign_2 N δ k) (nI j) hc = _
    unfold f_X5_findCampaign_2B
    rw [e5]
    by_cases hj : j = m
    · rw [if_neg (nI_nlt (by omega) (by omega)), if_pos hj]
    · obtain ⟨a, p1, p2⟩ := sp j (by omega)
      rw [if_pos (nI_lt (by omega) (by omega)), if_pos (zb_in (by omega) (by decide)), nI_clamp (by omega), p1, xbr_some, p2, xb_some, if_neg (fun z => r4 (by omega) (zi_d.mp z)), if_neg hj]
theorem zs_find (hN : 1000 ≤ N) (hf : zTf b x s e κ) (hk : κ = 1) (hq : xm_k hr r = (104, i)) (hmi : m ≤ i) (hi : i ≤ 100) (hW : zNs n0 q r m W hc hr) (hR : zRun (fun t => ¬ (κ = 1 ∧ W t = zWd b s (e - s))) m 0 j) : f_X11_find N r (nI m) (lN (zPk (zWd b s (e - s)))) hr = some (if j = m then -1 else nI j, hr) := by
  obtain ⟨r1, r2, r3, r4⟩ := hR
  have hl := hf.2.2.2.2.2.2.1 hk
  have cm : ∀ t, t < m → (lg_cmp (xm_l hr r t) (lN (zPk (zWd b s (e - s)))) = 0 ↔ (κ = 1 ∧ W t = zWd b s (e - s))) := fun t ht => by
    obtain ⟨w1, w2, w3, w4⟩ := hW t ht
    have hb1 := zPk_b w1
    have hb2 := zPk_b hl
    rw [w3, lg_cmp_eq]
    constructor
    · intro z
      exact ⟨hk, zPk_inj _ _ _ rfl w1.2.2 hl.2.2 (lN_inj (by omega) (by omega) z)⟩
    · intro z
      rw [z.2]
  unfold f_X11_find
  refine zlp0 (N := N) (F := fun n t => f_X11_find_3 N r (nI m) (lN (zPk (zWd b s (e - s)))) n t.1 t.2) (I := fun i t => t = (nI i, hr)) (L := j) (s := (0, hr)) (by omega) rfl ?_ ?_
  · intro k i t hi ht
    subst ht
    refine ⟨(nI (i + 1), hr), rfl, ?_⟩
    show f_X11_find_3B N r (nI m) (lN (zPk (zWd b s (e - s)))) (f_X11_find_3 N r (nI m) (lN (zPk (zWd b s (e - s)))) k) (nI i) hr = f_X11_find_3 N r (nI m) (lN (zPk (zWd b s (e - s)))) k (nI (i + 1)) hr
    unfold f_X11_find_3B
    rw [if_pos (nI_lt (by omega) (by omega)), if_pos (by rw [hq]), if_pos (by rw [hq]; exact zb_in (by show i < _; omega) (by show _ < 2 ^ 31; omega)), nI_clamp (by omega), if_neg (fun z => r3 i (by omega) hi ((cm i (by omega)).mp z)), nI_1]
  · intro k t ht
    subst ht
    show f_X11_find_3B N r (nI m) (lN (zPk (zWd b s (e - s)))) (f_X11_find_3 N r (nI m) (lN (zPk (zWd b s (e - s)))) k) (nI j) hr = _
    unfold f_X11_find_3B
    by_cases hj : j = m
    · rw [if_neg (nI_nlt (by omega) (by omega)), if_pos hj]
    · have hp : κ = 1 ∧ W j = zWd b s (e - s) := Classical.byContradiction (r4 (by omega))
      rw [if_pos (nI_lt (by omega) (by omega)), if_pos (by rw [hq]), if_pos (by rw [hq]; exact zb_in (by show j < _; omega) (by show _ < 2 ^ 31; omega)), nI_clamp (by omega), if_pos ((cm j (by omega)).mpr hp), if_neg hj]
end Fd2
