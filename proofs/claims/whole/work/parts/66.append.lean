/-! write: the builder takes a text, a character -/
theorem xi_cpo {h : xm_H} {a b q n c j : Nat} : xm_i (xm_cp h a 0 b q n) c j = if c = b ∧ q ≤ j ∧ j < q + n then xm_i h a (j - q) else xm_i h c j := by
  show (if c = b ∧ q ≤ j ∧ j < q + n then h.2.2.1 a (0 + (j - q)) else h.2.2.1 c j) = _
  rw [Nat.zero_add]
  rfl
section Ap
variable {N L a b c q bo0 j m : Nat} {xs : zV} {h0 h g : xm_H} {l w : List Nat}
theorem zSb.str (hS : zSb h0 bo0 j m l g) (ha : a ≠ 300 ∧ a ≠ bo0) (hb : b ≠ 300 ∧ b ≠ bo0) (hT : zStr h0 a b w) : zStr g a b w := by
  obtain ⟨bo, cap, s1, s2, s3, s4, s5, s6, s7, s8, s9, s10, s11, s12, s13, s14, s15⟩ := hS
  obtain ⟨t1, t2, t3, t4, t5, t6, t7⟩ := hT.fx s13 (fun k z => by unfold zA3 at z; omega) (fun k z => by unfold zA3 at z; omega)
  refine ⟨t1, t2, t3, ?_, t5, t6, t7⟩
  have e : xm_r (xm_sr g 300 0 (some bo0)) a 0 = xm_r g a 0 := if_neg (fun z => ha.1 z.1)
  rw [← e]
  exact t4
theorem zc_appT (hn : 318 ≤ xm_n h0) (hS : zSb h0 bo0 j 0 l h) (hT : zStr h0 a b w) (ha : a ≠ 300 ∧ a ≠ bo0) (hb : b ≠ 300 ∧ b ≠ bo0) (hw : ∀ x ∈ w, x < 128) (hl : l.length + w.length ≤ 120) : ∃ g, f_J4_append_15ec4 a h = some (300, g) ∧ zSb h0 bo0 (j + 1) 0 (l ++ w) g := by
  have hT1 := hS.str ha hb hT
  have h7 : xm_i h 300 3 = nI l.length := by
    obtain ⟨bo, cap, s1, s2, s3, s4, s5, s6, s7, _⟩ := hS
    exact s7
  obtain ⟨g1, e1, e2⟩ := zc_ensure (m := l.length + w.length) hn hl (by omega) hS
  have hT2 := e2.str ha hb hT
  obtain ⟨bo, cap, s1, s2, s3, s4, s5, s6, s7, s8, s9, s10, s11, s12, s13, s14, s15⟩ := e2
  obtain ⟨t1, t2, t3, t4, t5, t6, t7⟩ := hT2
  have hbb : b ≠ bo := by
    rcases s1 with z | z
    · omega
    · have := hT.2.1
      omega
  have hco : f_J0_coder_7d493 a g1 = some (0, g1) := by
    unfold f_J0_coder_7d493
    rw [if_pos (by rw [t3]), t5, if_pos (show vp_nar .byte (0 : Int32) = 0 by decide)]
  have hlen : Int32.ofNat (xm_k g1 b).2 = nI w.length := by rw [t6]; rfl
  have hgb : f_J0_getBytes_840e7 a bo (nI l.length) 0 g1 = some ((), xm_cp g1 b 0 bo l.length w.length) := by
    unfold f_J0_getBytes_840e7
    rw [if_pos (by rw [t3]), hco, xb_some, if_pos rfl, if_pos (by rw [t3]), t4, xbr_some, if_pos (by rw [t3]), xbr_some, if_pos (by rw [t6]; exact ⟨show 100 ≤ 102 by decide, show 102 < 109 by decide⟩), if_pos (by rw [t6]), if_pos (by rw [s5]), if_pos (by omega), hlen, zshl0, nI_clamp (by omega), nI_clamp (by omega), if_pos (nI_pos (by omega)), if_pos (nI_pos (by omega)), if_pos (by rw [t6]; show 0 + w.length ≤ w.length; omega), if_pos (by rw [s5]; exact s9), if_pos (fun i hi => by
      rw [Nat.zero_add, t7 i _ (List.getElem?_eq_getElem hi)]
      exact zfit7 ⟨_, hw _ (List.getElem_mem hi)⟩)]
    rfl
  refine ⟨xm_si (xm_cp g1 b 0 bo l.length w.length) 300 3 (nI (l.length + w.length)), ?_, bo, cap, s1, s2, s3, s4, s5, ?_, ?_, by rw [List.length_append]; exact s9, by omega, s10, fun i x hx => ?_, fun i hi => ?_, ?_, s14, s15⟩
  · unfold f_J4_append_15ec4 f_J5_append_cf1ce f_J5_putStringAt_47b60 f_J5_inflateIfNeededFor_a7421
    rw [if_pos (by rw [hT1.2.2.1]), zs_len hT1 (by omega), xb_some, h7, nI_add, e1, xb_some, if_pos (by rw [t3]), hco, xb_some, if_pos s6, xb_some, s4, xbr_some, if_pos (by rw [t3]), s7, s6, hgb, xb_some, xb_some]
    simp only [xl]
    rw [xi_cpo, if_neg (by omega), s7, nI_add, xb_some, if_pos rfl]
  · rw [xi_nk (by decide), xi_cpo, if_neg (by omega)]
    exact s6
  · rw [xi_eq, List.length_append]
  · rw [xi_ne (by omega), xi_cpo]
    by_cases h1 : i < l.length
    · rw [if_neg (by omega)]
      rw [List.getElem?_append_left h1] at hx
      exact s11 i x hx
    · rw [List.getElem?_append_right (by omega)] at hx
      have h2 : i - l.length < w.length := by
        rcases Nat.lt_or_ge (i - l.length) w.length with z | z
        · exact z
        · rw [List.getElem?_eq_none z] at hx
          cases hx
      rw [if_pos ⟨rfl, by omega, by omega⟩]
      exact t7 _ x hx
  · rw [xi_ne (by omega), xi_cpo]
    by_cases h1 : bo = bo ∧ l.length ≤ i ∧ i < l.length + w.length
    · rw [if_pos h1]
      have h2 : i - l.length < w.length := by omega
      rw [t7 _ _ (List.getElem?_eq_getElem h2)]
      exact ⟨_, by omega, by have := hw _ (List.getElem_mem h2); omega, rfl⟩
    · rw [if_neg h1]
      exact s12 i hi
  · refine ⟨s13.1, fun a' ha' => ?_⟩
    obtain ⟨d1, d2, d3, d4⟩ := s13.2 a' ha'
    refine ⟨d1, d2, fun k hk => ?_, d4⟩
    refine Eq.trans ?_ (d3 k hk)
    show xm_i (xm_si (xm_cp g1 b 0 bo l.length w.length) 300 3 (nI (l.length + w.length))) a' k = xm_i g1 a' k
    unfold zA3 at hk
    rw [xi_ne (by omega), xi_cpo, if_neg (by omega)]
end Ap
