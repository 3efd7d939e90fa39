/-! write: the builder takes a number -/
section Apn
variable {N L q bo0 j m : Nat} {xs : zV} {h0 h g : xm_H} {l w : List Nat}
theorem zSb.kon (hn : 318 ≤ xm_n h0) (hb0 : bo0 = 301 ∨ 318 ≤ bo0) (hS : zSb h0 bo0 j m l g) (hK : zKon L xs h0) : zKon L xs g := by
  obtain ⟨bo, cap, s1, s2, s3, s4, s5, s6, s7, s8, s9, s10, s11, s12, s13, s14, s15⟩ := hS
  have h1 := hK.fx s13 hn (fun a k ha z => by unfold zA3 at z; omega)
  intro a ha
  obtain ⟨e1, e2⟩ := h1 a ha
  refine ⟨e1, fun i => ⟨(e2 i).1, ?_⟩⟩
  have e : xm_r (xm_sr g 300 0 (some bo0)) a i = xm_r g a i := if_neg (fun z => by omega)
  rw [← e]
  exact (e2 i).2
theorem zDg_b (hq : q ≤ 9999) : (zDg q).length ≤ 4 ∧ ∀ x ∈ zDg q, x < 128 := by
  unfold zDg
  split
  · exact ⟨by simp, fun x hx => by simp at hx; omega⟩
  · split
    · exact ⟨by simp, fun x hx => by simp at hx; omega⟩
    · split
      · exact ⟨by simp, fun x hx => by simp at hx; omega⟩
      · exact ⟨by simp, fun x hx => by simp at hx; omega⟩
theorem zc_appN (hN : 1000 ≤ N) (hn : 318 ≤ xm_n h0) (hb0 : bo0 = 301 ∨ 318 ≤ bo0) (hK : zKon L xs h0) (hS : zSb h0 bo0 j 0 l h) (hq : q ≤ 9999) (hl : l.length + 4 ≤ 120) : ∃ g, f_J4_append_bf812 N (nI q) h = some (300, g) ∧ zSb h0 bo0 (j + 1) 0 (l ++ zDg q) g := by
  obtain ⟨db1, db2⟩ := zDg_b hq
  have h7 : xm_i h 300 3 = nI l.length := by
    obtain ⟨bo, cap, s1, s2, s3, s4, s5, s6, s7, _⟩ := hS
    exact s7
  obtain ⟨g1, e1, e2⟩ := zc_ensure (m := l.length + (zDg q).length) hn (by omega) (by omega) hS
  have hK1 := e2.kon hn hb0 hK
  obtain ⟨bo, cap, s1, s2, s3, s4, s5, s6, s7, s8, s9, s10, s11, s12, s13, s14, s15⟩ := e2
  obtain ⟨v, g2, c1, c2, c3⟩ := zc_getChars (N := N) (q := q) (e := l.length) hN hK1 (by omega) s5 s10 s9 hq
  refine ⟨xm_si g2 300 3 (nI (l.length + (zDg q).length)), ?_, bo, cap, s1, by show bo < xm_n g2; rw [c2.n]; exact s2, s3, (c2.r 300 0).trans s4, (c2.k bo).trans s5, ?_, ?_, by rw [List.length_append]; exact s9, by omega, s10, fun i x hx => ?_, fun i hi => ?_, ?_, by show xm_n g2 ≤ _; rw [c2.n]; exact s14, by show xm_sz g2 ≤ _; rw [c2.sz]; exact s15⟩
  · unfold f_J4_append_bf812 f_J5_append_c97b9 f_J5_isLatin1_aae02
    rw [zc_size hN hq, xb_some, h7, nI_add, e1, xb_some, if_pos s6, xb_some, if_neg (by decide), s4, xbr_some, c1, xb_some]
    simp only [xl]
    rw [xb_some, if_pos rfl]
  · rw [xi_nk (by decide), c2.i (by omega)]
    exact s6
  · rw [xi_eq, List.length_append]
  · rw [xi_ne (by omega)]
    by_cases h1 : i < l.length
    · rw [c2.i (by omega)]
      rw [List.getElem?_append_left h1] at hx
      exact s11 i x hx
    · rw [List.getElem?_append_right (by omega)] at hx
      have := c3 _ x hx
      rw [show l.length + (i - l.length) = i by omega] at this
      exact this
  · rw [xi_ne (by omega)]
    by_cases h1 : l.length ≤ i ∧ i < l.length + (zDg q).length
    · have h2 : i - l.length < (zDg q).length := by omega
      have := c3 _ _ (List.getElem?_eq_getElem h2)
      rw [show l.length + (i - l.length) = i by omega] at this
      rw [this]
      exact ⟨_, by omega, by have := db2 _ (List.getElem_mem h2); omega, rfl⟩
    · rw [c2.i (by omega)]
      exact s12 i hi
  · refine ⟨Nat.le_trans s13.1 (Nat.le_of_eq c2.n.symm), fun a' ha' => ?_⟩
    obtain ⟨d1, d2, d3, d4⟩ := s13.2 a' ha'
    refine ⟨(c2.k a').trans d1, fun k => ?_, fun k hk => ?_, fun k hk => (c2.l a' k).trans (d4 k hk)⟩
    · refine Eq.trans ?_ (d2 k)
      show (if a' = 300 ∧ k = 0 then some bo0 else xm_r g2 a' k) = (if a' = 300 ∧ k = 0 then some bo0 else xm_r g1 a' k)
      rw [c2.r]
    · refine Eq.trans ?_ (d3 k hk)
      show xm_i (xm_si g2 300 3 (nI (l.length + (zDg q).length))) a' k = xm_i g1 a' k
      unfold zA3 at hk
      rw [xi_ne (by omega), c2.i (by omega)]
end Apn
