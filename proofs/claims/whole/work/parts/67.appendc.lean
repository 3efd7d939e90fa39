/-! write: the builder takes a character -/
theorem znar_7 : ∀ k : Fin 128, vp_nar .byte ((Int32.toInt8 (nI k.1)).toInt32) = nI k.1 ∧ vp_nar .byte (nI k.1) = nI k.1 := by decide +kernel
section Apc
variable {N L a b c q bo0 j m : Nat} {xs : zV} {h0 h g : xm_H} {l w : List Nat}
theorem zc_appC (hn : 318 ≤ xm_n h0) (hS : zSb h0 bo0 j 0 l h) (hc : c < 128) (hl : l.length + 1 ≤ 120) : ∃ g, f_J4_append_cf468 (nI c) h = some (300, g) ∧ zSb h0 bo0 (j + 1) 0 (l ++ [c]) g := by
  have h7 : xm_i h 300 3 = nI l.length := by
    obtain ⟨bo, cap, s1, s2, s3, s4, s5, s6, s7, _⟩ := hS
    exact s7
  obtain ⟨g1, e1, e2⟩ := zc_ensure (m := l.length + 1) hn hl (by omega) hS
  obtain ⟨bo, cap, s1, s2, s3, s4, s5, s6, s7, s8, s9, s10, s11, s12, s13, s14, s15⟩ := e2
  refine ⟨xm_si (xm_si g1 300 3 (nI (l.length + 1))) bo l.length (nI c), ?_, bo, cap, s1, s2, s3, s4, s5, ?_, ?_, by rw [List.length_append]; exact s9, by omega, s10, fun i x hx => ?_, fun i hi => ?_, ?_, s14, s15⟩
  · unfold f_J4_append_cf468 f_J5_append_3fe6f f_J5_isLatin1_aae02 f_J1_canEncode_fc78d
    rw [h7, nI_1, e1, xb_some, s6, if_pos rfl, xb_some, if_neg (by decide), if_neg (show ¬ (255 : Int32) < nI c from nI_nlt (a := 255) (by omega) (by omega)), xb_some, if_neg (by decide), s4, xbr_some, s7, nI_1]
    simp only [xl]
    have hk : xm_k (xm_si g1 300 3 (nI (l.length + 1))) bo = (102, cap) := s5
    rw [if_pos (by rw [hk]), if_pos (by rw [hk]; exact zb_in (show l.length < cap by omega) (by show cap < _; omega)), if_pos (by omega), nI_clamp (by omega), (znar_7 ⟨c, hc⟩).1, xb_some, if_pos rfl]
  · rw [xi_ne (by omega), xi_nk (by decide)]
    exact s6
  · rw [xi_ne (by omega), xi_eq, List.length_append]
    rfl
  · by_cases h1 : i = l.length
    · subst h1
      rw [List.getElem?_append_right (Nat.le_refl _), Nat.sub_self] at hx
      have : c = x := by simpa using hx
      rw [xi_eq, this]
    · have h2 : i < l.length := by
        rcases Nat.lt_or_ge i l.length with z | z
        · exact z
        · rw [List.getElem?_eq_none (by rw [List.length_append]; show l.length + 1 ≤ i; omega)] at hx
          cases hx
      rw [xi_nk h1, xi_ne (by omega)]
      rw [List.getElem?_append_left h2] at hx
      exact s11 i x hx
  · by_cases h1 : i = l.length
    · subst h1
      rw [xi_eq]
      exact zB.nI (by omega) (by omega)
    · rw [xi_nk h1, xi_ne (by omega)]
      exact s12 i hi
  · refine ⟨s13.1, fun a' ha' => ?_⟩
    obtain ⟨d1, d2, d3, d4⟩ := s13.2 a' ha'
    refine ⟨d1, d2, fun k hk => ?_, d4⟩
    refine Eq.trans ?_ (d3 k hk)
    show xm_i (xm_si (xm_si g1 300 3 (nI (l.length + 1))) bo l.length (nI c)) a' k = xm_i g1 a' k
    unfold zA3 at hk
    rw [xi_ne (by omega), xi_ne (by omega)]
end Apc
