/-! write: the builder grows -/
theorem zfit7 : ∀ k : Fin 128, fits (xm_ty 2) (.int (nI k.1)) = true := by decide
theorem zshl0 (x : Int32) : x <<< ((0 : Int32) &&& 31) = x := by
  rw [show ((0 : Int32) &&& 31) = 0 from rfl]
  exact Int32.shiftLeft_zero
theorem zr_eq {h : xm_H} {a k : Nat} {v : Option Nat} : xm_r (xm_sr h a k v) a k = v := by
  show (if a = a ∧ k = k then v else _) = v
  exact if_pos ⟨rfl, rfl⟩
def zA3 (bo0 : Nat) (a _k : Nat) : Prop := a = 300 ∨ a = bo0
/-- the builder at g, since h0 with its bytes at bo0: room for m bytes, the bytes l, j calls so far -/
def zSb (h0 : xm_H) (bo0 j m : Nat) (l : List Nat) (g : xm_H) : Prop := ∃ bo cap, (bo = bo0 ∨ xm_n h0 ≤ bo) ∧ bo < xm_n g ∧ (bo = 301 ∨ 318 ≤ bo) ∧ xm_r g 300 0 = some bo ∧ xm_k g bo = (102, cap) ∧ xm_i g 300 1 = 0 ∧ xm_i g 300 3 = nI l.length ∧ l.length ≤ cap ∧ m ≤ cap ∧ cap ≤ 300 ∧ (∀ i x, l[i]? = some x → xm_i g bo i = nI x) ∧ (∀ i, i < cap → zB 0 127 (xm_i g bo i)) ∧ zX (zA3 bo0) h0 (xm_sr g 300 0 (some bo0)) ∧ xm_n g ≤ xm_n h0 + j ∧ xm_sz g ≤ xm_sz h0 + 400 * j
section Gr
variable {N L a b c q bo0 j m : Nat} {xs : zV} {h0 h g : xm_H} {l w : List Nat}
theorem zc_ensure (hn : 318 ≤ xm_n h0) (hm : m ≤ 120) (hl : l.length ≤ m) (hS : zSb h0 bo0 j 0 l h) : ∃ g, f_J5_ensureCapacityInternal_d00df (nI m) h = some ((), g) ∧ zSb h0 bo0 (j + 1) m l g := by
  obtain ⟨bo, cap, s1, s2, s3, s4, s5, s6, s7, s8, s9, s10, s11, s12, s13, s14, s15⟩ := hS
  have hcap : Int32.ofNat (xm_k h bo).2 = nI cap := by rw [s5]; rfl
  have hkd : 100 ≤ (xm_k h bo).1 ∧ (xm_k h bo).1 < 109 := by rw [s5]; exact ⟨show 100 ≤ 102 by decide, show 102 < 109 by decide⟩
  have hgt : (0 < nI m - nI cap) ↔ cap < m := by
    rw [Int32.lt_iff_toInt_lt, pk_sub_toInt (by omega) (by omega)]
    have : (0 : Int32).toInt = 0 := rfl
    omega
  unfold f_J5_ensureCapacityInternal_d00df
  rw [s4, xbr_some, if_pos hkd, hcap, s6, zshr0]
  by_cases hlt : cap < m
  · rw [if_pos (hgt.mpr hlt), xbr_some]
    obtain ⟨c, hc⟩ : ∃ c, c = max m (2 * cap + 2) := ⟨_, rfl⟩
    have hc1 : cap < c ∧ m ≤ c ∧ c ≤ 300 := by omega
    have hnl : f_J5_newCapacity_0f7a4 (nI m) h = some (nI c, h) := by
      unfold f_J5_newCapacity_0f7a4 f_J8_newLength_cabcc
      have hcmp : (if nI m - nI cap < nI (cap + 2) then nI (cap + 2) else nI m - nI cap) = nI (max (m - cap) (cap + 2)) := by
        rw [pk_sub (by omega)]
        by_cases h1 : m - cap < cap + 2
        · rw [if_pos (nI_lt h1 (by omega)), Nat.max_eq_right (by omega)]
        · rw [if_neg (nI_nlt (by omega) (by omega)), Nat.max_eq_left (by omega)]
      rw [s4, xbr_some, if_pos hkd, hcap, s6, zshl0, zshl0, show (2 : Int32) = nI 2 from rfl, nI_add, hcmp, nI_add, show cap + max (m - cap) (cap + 2) = c by omega]
      rw [if_pos (show (0 : Int32) < nI c from nI_lt (a := 0) (by omega) (by omega)), if_neg (show ¬ (2147483639 : Int32) < nI c from nI_nlt (a := 2147483639) (by omega) (by omega)), xb_some, s6, zshr0, if_neg (show ¬ nI c = (2147483647 : Int32) from fun z => absurd ((nI_eq (a := c) (b := 2147483647) (by omega) (by omega)).mp z) (by omega))]
    have hk2 : xm_k (xm_new h (102, c)) bo = (102, cap) := (if_neg (Nat.ne_of_lt s2)).trans s5
    have hi2 : ∀ i, xm_i (xm_new h (102, c)) bo i = xm_i h bo i := fun i => xi_new s2
    have hmin : (if nI c < Int32.ofNat (xm_k (xm_new h (102, c)) bo).2 then nI c else Int32.ofNat (xm_k (xm_new h (102, c)) bo).2) = nI cap := by
      rw [hk2]
      exact if_neg (nI_nlt (by omega) (by omega))
    have hn318 : 318 ≤ xm_n h := Nat.le_trans hn s13.1
    have hn300 : 300 < xm_n h := by omega
    have hcp : f_J7_copyOf_9075b bo (nI c) h = some (xm_n h, xm_cp (xm_new h (102, c)) bo 0 (xm_n h) 0 cap) := by
      unfold f_J7_copyOf_9075b
      simp only [xl, nI_clamp (show c < 2 ^ 31 by omega), hmin, nI_clamp (show cap < 2 ^ 31 by omega)]
      rw [if_pos hkd, if_neg (by rw [hcap]; exact fun z => absurd ((nI_eq (by omega) (by omega)).mp z) (by omega)), if_pos ⟨nI_pos (by omega), by omega⟩, if_pos (by rw [hk2]; exact ⟨show 100 ≤ 102 by decide, show 102 < 109 by decide⟩), if_pos (by rw [hk2]), if_pos (by omega), if_pos (nI_pos (by omega)), if_pos (by rw [hk2]; omega), if_pos (by omega), if_pos (fun i hi => by
        rw [Nat.zero_add, hi2]
        obtain ⟨q, q1, q2, q3⟩ := s12 i hi
        rw [q3]
        exact zfit7 ⟨q, by omega⟩)]
    rw [hnl, xb_some, s6, zshl0, hcp, xb_some]
    simp only [xl]
    refine ⟨_, rfl, xm_n h, c, Or.inr s13.1, Nat.lt_succ_self _, Or.inr (by omega), ?_, ?_, ?_, ?_, by omega, hc1.2.1, hc1.2.2, fun i x hx => ?_, fun i hi => ?_, ?_, ?_, ?_⟩
    · exact zr_eq
    · exact if_pos rfl
    · show xm_i (xm_cp (xm_new h (102, c)) bo 0 (xm_n h) 0 cap) 300 1 = 0
      rw [xi_cp, if_neg (by omega), xi_new hn300]
      exact s6
    · show xm_i (xm_cp (xm_new h (102, c)) bo 0 (xm_n h) 0 cap) 300 3 = _
      rw [xi_cp, if_neg (by omega), xi_new hn300]
      exact s7
    · show xm_i (xm_cp (xm_new h (102, c)) bo 0 (xm_n h) 0 cap) (xm_n h) i = _
      have hil : i < l.length := by
        rcases Nat.lt_or_ge i l.length with z | z
        · exact z
        · rw [List.getElem?_eq_none z] at hx
          cases hx
      rw [xi_cp, if_pos ⟨rfl, by omega⟩, hi2]
      exact s11 i x hx
    · show zB 0 127 (xm_i (xm_cp (xm_new h (102, c)) bo 0 (xm_n h) 0 cap) (xm_n h) i)
      rw [xi_cp]
      by_cases h1 : i < cap
      · rw [if_pos ⟨rfl, h1⟩, hi2]
        exact s12 i h1
      · rw [if_neg (by omega)]
        refine ⟨0, by omega, by omega, ?_⟩
        exact if_pos rfl
    · refine ⟨Nat.le_trans s13.1 (Nat.le_succ _), fun a ha => ?_⟩
      obtain ⟨d1, d2, d3, d4⟩ := s13.2 a ha
      have hne : a ≠ xm_n h := Nat.ne_of_lt (Nat.lt_of_lt_of_le ha s13.1)
      refine ⟨(if_neg hne).trans d1, fun k => ?_, fun k hk => ?_, fun k hk => (if_neg hne).trans (d4 k hk)⟩
      · refine Eq.trans ?_ (d2 k)
        show (if a = 300 ∧ k = 0 then some bo0 else if a = 300 ∧ k = 0 then some (xm_n h) else if a = xm_n h then none else h.2.2.2.2.2 a k) = (if a = 300 ∧ k = 0 then some bo0 else h.2.2.2.2.2 a k)
        by_cases hz : a = 300 ∧ k = 0
        · rw [if_pos hz, if_pos hz]
        · rw [if_neg hz, if_neg hz, if_neg hz, if_neg hne]
      · refine Eq.trans ?_ (d3 k hk)
        show xm_i (xm_cp (xm_new h (102, c)) bo 0 (xm_n h) 0 cap) a k = xm_i h a k
        rw [xi_cp, if_neg (fun z => hne z.1)]
        exact if_neg hne
    · show xm_n h + 1 ≤ _
      omega
    · show xm_sz (xm_new h (102, c)) ≤ _
      rw [xm_sz_new]
      have : xm_ks (102, c) = c := rfl
      omega
  · rw [if_neg (fun z => hlt (hgt.mp z))]
    exact ⟨h, rfl, bo, cap, s1, s2, s3, s4, s5, s6, s7, s8, by omega, s10, s11, s12, s13, by omega, by omega⟩
end Gr
