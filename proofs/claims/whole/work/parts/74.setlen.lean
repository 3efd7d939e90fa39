/-! write: the builder made empty -/
section Sl
variable {N bo no cap : Nat} {h g : xm_H}
theorem zSb_0 (hO : zOut bo no cap h) (hF : zF (fun a k => a = 300 ∧ 2 ≤ k) h g) (e3 : xm_i g 300 3 = 0) : zSb h bo 0 0 [] g := by
  obtain ⟨o1, o2, o3, o4, o5, o6, o7, o8, o9, o10, o11, o12⟩ := hO
  refine ⟨bo, cap, Or.inl rfl, by rw [hF.n]; exact o4, o5, (hF.r 300 0).trans o6, (hF.k bo).trans o7, by rw [hF.i (by omega)]; exact o8, e3, Nat.zero_le _, Nat.zero_le _, o3, fun i x hx => by simp at hx, fun i hi => by rw [hF.i (by omega)]; exact o12 i hi, ?_, by rw [hF.n]; omega, by rw [hF.sz]; omega⟩
  refine ⟨Nat.le_of_eq hF.n.symm, fun a ha => ⟨hF.k a, fun k => ?_, fun k hk => ?_, fun k hk => hF.l a k⟩⟩
  · show (if a = 300 ∧ k = 0 then some bo else xm_r g a k) = xm_r h a k
    by_cases hz : a = 300 ∧ k = 0
    · rw [if_pos hz, hz.1, hz.2]
      exact o6.symm
    · rw [if_neg hz]
      exact hF.r a k
  · show xm_i g a k = xm_i h a k
    unfold zA3 at hk
    exact hF.i (by omega)
theorem zc_setLength (hO : zOut bo no cap h) : ∃ g, f_J4_setLength_d00df N 0 h = some ((), g) ∧ zSb h bo 0 0 [] g := by
  have hO' := hO
  obtain ⟨o1, o2, o3, o4, o5, o6, o7, o8, o9, o10, o11, o12⟩ := hO
  have hcap : Int32.ofNat (xm_k h bo).2 = nI cap := by rw [o7]; rfl
  have hng : ¬ (0 : Int32) < 0 - nI cap := by
    rw [show (0 : Int32) = nI 0 from rfl, Int32.lt_iff_toInt_lt, pk_sub_toInt (by omega) (by omega), nI_toInt (by omega)]
    omega
  unfold f_J4_setLength_d00df f_J5_setLength_d00df f_J5_ensureCapacityInternal_d00df
  rw [if_neg (by decide), o6, xbr_some, if_pos (by rw [o7]; exact ⟨show 100 ≤ 102 by decide, show 102 < 109 by decide⟩), hcap, o8, zshr0, if_neg hng, xb_some, o9, if_neg (nI_pos (by omega))]
  by_cases hz : 0 < no
  · rw [if_pos (show (0 : Int32) < nI no from nI_lt (a := 0) hz (by omega))]
    simp only [xl]
    rw [xb_some]
    exact ⟨_, rfl, zSb_0 hO' ((zF.si ⟨rfl, by omega⟩).st ⟨rfl, by omega⟩) xi_eq⟩
  · rw [if_neg (show ¬ (0 : Int32) < nI no from nI_nlt (a := 0) (by omega) (by omega))]
    simp only [xl]
    rw [xb_some]
    exact ⟨_, rfl, zSb_0 hO' (zF.si ⟨rfl, by omega⟩) xi_eq⟩
end Sl
