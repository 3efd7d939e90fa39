/-! write: what the reference puts -/
def zOr (l : List Nat) (h : xm_H) : Prop := xm_i h 302 30 = nI l.length ∧ ∀ i x, l[i]? = some x → xm_i h 315 i = nI x
def zAo (a k : Nat) : Prop := a = 315 ∨ (a = 302 ∧ k = 30)
def zDg (q : Nat) : List Nat := if q < 10 then [48 + q] else if q < 100 then [48 + q / 10, 48 + q % 10] else if q < 1000 then [48 + q / 100, 48 + q / 10 % 10, 48 + q % 10] else [48 + q / 1000, 48 + q / 100 % 10, 48 + q / 10 % 10, 48 + q % 10]
section Put
variable {N a b c q : Nat} {h g : xm_H} {l w : List Nat}
theorem zs_put (hl : l.length < 120) (hO : zOr l h) : ∃ g, f_X11_put (nI c) h = some ((), g) ∧ zF zAo h g ∧ zOr (l ++ [c]) g := by
  obtain ⟨o1, o2⟩ := hO
  refine ⟨xm_si (xm_si h 315 l.length (nI c)) 302 30 (nI (l.length + 1)), ?_, (zF.si (Or.inl rfl)).st (Or.inr ⟨rfl, rfl⟩), ?_, ?_⟩
  · unfold f_X11_put
    rw [o1, if_pos (zb_in hl (by decide)), nI_clamp (by omega)]
    simp only [xl]
    rw [xi_ne (by decide), o1, nI_1]
  · rw [xi_eq, List.length_append]
    rfl
  · rw [zU_ot (by decide)]
    exact zRow.snoc (R := xm_i h 315) (fun i x hx => o2 i x hx) (fun i hi => xi_nk (by omega)) xi_eq
theorem zs_putD1 {m p : Nat} (hq : q ≤ 9999) (hp : p = 1 ∨ p = 10 ∨ p = 100 ∨ p = 1000) (hl : l.length < 120) (hO : zOr l h) : ∃ g, f_X11_putNumber_18 N (nI q) (m + 1) (nI p) h = f_X11_putNumber_18 N (nI q) m (nI (p / 10)) g ∧ zF zAo h g ∧ zOr (l ++ [48 + q / p % 10]) g := by
  obtain ⟨g, g1, g2, g3⟩ := zs_put (c := 48 + q / p % 10) hl hO
  refine ⟨g, ?_, g2, g3⟩
  show f_X11_putNumber_18B N (nI q) (f_X11_putNumber_18 N (nI q) m) (nI p) h = _
  unfold f_X11_putNumber_18B
  have hp1 : 1 ≤ p := by omega
  have hqp : q / p ≤ 9999 := Nat.le_trans (Nat.div_le_self _ _) hq
  rw [if_pos (show (0 : Int32) < nI p from nI_lt (a := 0) (by omega) (by omega)), if_pos (nI_ne0 (by omega) (by omega)), pk_div (by omega) (by omega) (by omega), show (10 : Int32) = nI 10 from rfl, pk_rem (by omega) (by omega) (by omega), show (48 : Int32) = nI 48 from rfl, nI_add, g1, xb_some, pk_div (by omega) (by omega) (by omega)]
theorem zs_putD0 {m : Nat} : f_X11_putNumber_18 N (nI q) (m + 1) (nI 0) h = some ((), h) := by
  show f_X11_putNumber_18B N (nI q) (f_X11_putNumber_18 N (nI q) m) (nI 0) h = _
  unfold f_X11_putNumber_18B
  rw [if_neg (show ¬ (0 : Int32) < nI 0 by decide)]
theorem zs_putP {m p : Nat} {K : Int32 → xm_H → Option (Unit × xm_H)} (hq : q ≤ 9999) (hp : p = 1 ∨ p = 10 ∨ p = 100 ∨ p = 1000) : f_X11_putNumber_2 N (nI q) K (m + 1) (nI p) h = if 9 < q / p then f_X11_putNumber_2 N (nI q) K m (nI (10 * p)) h else K (nI p) h := by
  show f_X11_putNumber_2B N (nI q) K (f_X11_putNumber_2 N (nI q) K m) (nI p) h = _
  have hqp : q / p ≤ 9999 := Nat.le_trans (Nat.div_le_self _ _) hq
  unfold f_X11_putNumber_2B
  rw [if_pos (nI_ne0 (by omega) (by omega)), pk_div (by omega) (by omega) (by omega), show (10 : Int32) = nI 10 from rfl, pk_mul]
  by_cases h9 : 9 < q / p
  · rw [if_pos (show (9 : Int32) < nI (q / p) from nI_lt (a := 9) h9 (by omega)), if_pos h9]
  · rw [if_neg (show ¬ (9 : Int32) < nI (q / p) from nI_nlt (a := 9) (by omega) (by omega)), if_neg h9]
theorem zs_putNumber (hN : 1000 ≤ N) (hq : q ≤ 9999) (hl : l.length + 4 ≤ 120) (hO : zOr l h) : ∃ g, f_X11_putNumber N (nI q) h = some ((), g) ∧ zF zAo h g ∧ zOr (l ++ zDg q) g := by
  obtain ⟨m, hm⟩ : ∃ m, N = m + 6 := ⟨N - 6, by omega⟩
  unfold f_X11_putNumber zDg
  have e : ∀ M (K : Int32 → xm_H → Option (Unit × xm_H)), f_X11_putNumber_2 M (nI q) K (m + 6) (1 : Int32) h = if 9 < q then (if 9 < q / 10 then (if 9 < q / 100 then K (nI 1000) h else K (nI 100) h) else K (nI 10) h) else K (nI 1) h := fun M K => by
    rw [show (1 : Int32) = nI 1 from rfl, zs_putP (m := m + 5) (p := 1) hq (by omega), Nat.div_one, zs_putP (m := m + 4) (p := 10 * 1) hq (by omega), zs_putP (m := m + 3) (p := 10 * (10 * 1)) hq (by omega), zs_putP (m := m + 2) (p := 10 * (10 * (10 * 1))) hq (by omega), if_neg (show ¬ 9 < q / (10 * (10 * (10 * 1))) by omega)]
  have e2 := fun K => e N K
  rw [← hm] at e2
  rw [e2]
  have D := fun (M : Nat) (h : xm_H) (l : List Nat) (p : Nat) (m : Nat) => @zs_putD1 M q h l m p hq
  by_cases h1 : 9 < q
  · rw [if_pos h1, if_neg (show ¬ q < 10 by omega)]
    by_cases h2 : 9 < q / 10
    · rw [if_pos h2, if_neg (show ¬ q < 100 by omega)]
      by_cases h3 : 9 < q / 100
      · rw [if_pos h3, if_neg (show ¬ q < 1000 by omega)]
        obtain ⟨g1, a1, a2, a3⟩ := D N h l 1000 (m + 5) (by omega) (by omega) hO
        obtain ⟨g2, b1, b2, b3⟩ := D N g1 _ 100 (m + 4) (by omega) (by rw [List.length_append]; show l.length + 1 < 120; omega) a3
        obtain ⟨g3, c1, c2, c3⟩ := D N g2 _ 10 (m + 3) (by omega) (by rw [List.length_append, List.length_append]; show l.length + 1 + 1 < 120; omega) b3
        obtain ⟨g4, d1, d2, d3⟩ := D N g3 _ 1 (m + 2) (by omega) (by rw [List.length_append, List.length_append, List.length_append]; show l.length + 1 + 1 + 1 < 120; omega) c3
        refine ⟨g4, ?_, a2.tr (b2.tr (c2.tr d2)), ?_⟩
        · refine (congrArg (fun z => f_X11_putNumber_18 N (nI q) z (nI 1000) h) hm).trans ?_
          exact a1.trans (b1.trans (c1.trans (d1.trans zs_putD0)))
        · rw [List.append_assoc, List.append_assoc, List.append_assoc, Nat.div_one, show q / 1000 % 10 = q / 1000 by omega] at d3
          exact d3
      · rw [if_neg h3, if_pos (show q < 1000 by omega)]
        obtain ⟨g2, b1, b2, b3⟩ := D N h l 100 (m + 5) (by omega) (by omega) hO
        obtain ⟨g3, c1, c2, c3⟩ := D N g2 _ 10 (m + 4) (by omega) (by rw [List.length_append]; show l.length + 1 < 120; omega) b3
        obtain ⟨g4, d1, d2, d3⟩ := D N g3 _ 1 (m + 3) (by omega) (by rw [List.length_append, List.length_append]; show l.length + 1 + 1 < 120; omega) c3
        refine ⟨g4, ?_, b2.tr (c2.tr d2), ?_⟩
        · refine (congrArg (fun z => f_X11_putNumber_18 N (nI q) z (nI 100) h) hm).trans ?_
          exact b1.trans (c1.trans (d1.trans zs_putD0))
        · rw [List.append_assoc, List.append_assoc, Nat.div_one, show q / 100 % 10 = q / 100 by omega] at d3
          exact d3
    · rw [if_neg h2, if_pos (show q < 100 by omega)]
      obtain ⟨g3, c1, c2, c3⟩ := D N h l 10 (m + 5) (by omega) (by omega) hO
      obtain ⟨g4, d1, d2, d3⟩ := D N g3 _ 1 (m + 4) (by omega) (by rw [List.length_append]; show l.length + 1 < 120; omega) c3
      refine ⟨g4, ?_, c2.tr d2, ?_⟩
      · refine (congrArg (fun z => f_X11_putNumber_18 N (nI q) z (nI 10) h) hm).trans ?_
        exact c1.trans (d1.trans zs_putD0)
      · rw [List.append_assoc, Nat.div_one, show q / 10 % 10 = q / 10 by omega] at d3
        exact d3
  · rw [if_neg h1, if_pos (show q < 10 by omega)]
    obtain ⟨g4, d1, d2, d3⟩ := D N h l 1 (m + 5) (by omega) (by omega) hO
    refine ⟨g4, ?_, d2, ?_⟩
    · refine (congrArg (fun z => f_X11_putNumber_18 N (nI q) z (nI 1) h) hm).trans ?_
      exact d1.trans zs_putD0
    · rw [Nat.div_one, show q % 10 = q by omega] at d3
      exact d3
/-- texts -/
theorem zs_len (hS : zStr h a b w) (hw : w.length ≤ 600) : f_J0_length_8abf5 a h = some (nI w.length, h) := by
  obtain ⟨s1, s2, s3, s4, s5, s6, s7⟩ := hS
  unfold f_J0_length_8abf5 f_J0_coder_7d493
  rw [if_pos (by rw [s3]), s4, xbr_some, if_pos (by rw [s6]; exact ⟨show 100 ≤ 102 by decide, show 102 < 109 by decide⟩), if_pos (by rw [s3]), if_pos (by rw [s3]), s5, if_pos (show vp_nar .byte (0 : Int32) = 0 by decide), xb_some, zshr0, s6]
  rfl
theorem zs_chr {i x : Nat} (hS : zStr h a b w) (hw : w.length ≤ 600) (hx : w[i]? = some x) (hx2 : x < 256) : f_J0_charAt_5068e a (nI i) h = some (nI x, h) := by
  obtain ⟨s1, s2, s3, s4, s5, s6, s7⟩ := hS
  have hi : i < w.length := by
    rcases Nat.lt_or_ge i w.length with z | z
    · exact z
    · rw [List.getElem?_eq_none z] at hx
      cases hx
  obtain ⟨c1, c2, c3⟩ := znar_c ⟨x, hx2⟩
  dsimp only at c1 c2 c3
  unfold f_J0_charAt_5068e f_J0_isLatin1_aae02 f_J1_charAt_3b067 f_J0_checkIndex_df160 f_J3_checkIndex_8e157
  have hlen : Int32.ofNat (xm_k h b).2 = nI w.length := by rw [s6]; rfl
  rw [if_pos (by rw [s3]), if_pos (by rw [s3]), s5, if_pos rfl, xb_some, if_neg (by decide), if_pos (by rw [s3]), s4, xbr_some, if_pos (by rw [s6]; exact ⟨show 100 ≤ 102 by decide, show 102 < 109 by decide⟩), if_neg (nI_pos (by omega)), hlen, if_pos (nI_lt hi (by omega)), xb_some, xb_some, if_pos (by rw [s6]), if_pos (by rw [s6]; exact zb_in hi (by omega)), nI_clamp (by omega), s7 i x hx, c1, if_pos c3, xb_some, if_pos c3]
theorem zStr.fo (hF : zF zAo h g) (ha : a ≠ 315 ∧ a ≠ 302) (hb : b ≠ 315 ∧ b ≠ 302) (hS : zStr h a b w) : zStr g a b w := hS.fx hF.x (fun k z => by unfold zAo at z; omega) (fun k z => by unfold zAo at z; omega)
theorem zs_putText (hN : 1000 ≤ N) (hS : zStr h a b w) (ha : a ≠ 315 ∧ a ≠ 302) (hb : b ≠ 315 ∧ b ≠ 302) (hw : ∀ x ∈ w, x < 256) (hl : l.length + w.length ≤ 120) (hO : zOr l h) : ∃ g, f_X11_putText N a h = some ((), g) ∧ zF zAo h g ∧ zOr (l ++ w) g := by
  unfold f_X11_putText
  obtain ⟨m2, ⟨c2, g⟩, ⟨e1, e2, e3⟩, hE⟩ := zlpO (N := N) (F := fun n s => f_X11_putText_2 N a n s.1 s.2) (I := fun i s => s.1 = nI i ∧ zF zAo h s.2 ∧ zOr (l ++ w.take i) s.2) (L := w.length) (s := (0, h)) (by omega) ⟨rfl, zF.rf, by rw [List.take_zero, List.append_nil]; exact hO⟩ (by
    rintro m2 i ⟨c2, g⟩ hi ⟨e1, e2, e3⟩
    dsimp only at e1 e2 e3 ⊢
    subst e1
    have hx := List.getElem?_eq_getElem hi
    have hSg := hS.fo e2 ha hb
    obtain ⟨g', k1, k2, k3⟩ := zs_put (c := w[i]) (by rw [List.length_append, List.length_take]; omega) e3
    refine ⟨(nI (i + 1), g'), ⟨rfl, e2.tr k2, ?_⟩, ?_⟩
    · dsimp only
      rw [List.take_succ, hx]
      rw [List.append_assoc] at k3
      exact k3
    · show f_X11_putText_2B N a (f_X11_putText_2 N a m2) (nI i) g = _
      unfold f_X11_putText_2B
      rw [if_pos (by rw [hSg.2.2.1]), zs_len hSg (by omega), xb_some, if_pos (nI_lt hi (by omega)), if_pos (by rw [hSg.2.2.1]), zs_chr hSg (by omega) hx (hw _ (List.getElem_mem hi)), xb_some, k1, xb_some, nI_1])
  dsimp only at e1 e2 e3
  subst e1
  have hSg := hS.fo e2 ha hb
  rw [List.take_length] at e3
  refine ⟨g, hE.trans ?_, e2, e3⟩
  show f_X11_putText_2B N a (f_X11_putText_2 N a m2) (nI w.length) g = _
  unfold f_X11_putText_2B
  rw [if_pos (by rw [hSg.2.2.1]), zs_len hSg (by omega), xb_some, if_neg (zlt_irr _)]
end Put
